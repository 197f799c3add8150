/-! ===== each act goes on at one place, or ends ===== -/
def jx_tf (f : jx_K → Option jx_R) : Prop := (∀ k, f k = none) ∨ (∃ r, ∀ k, f k = some r) ∨ ∃ pc l' s' h', ∀ k, f k = k pc l' s' h'
theorem tf_none : jx_tf (fun _ => none) := Or.inl fun _ => rfl
theorem tf_some {r : jx_R} : jx_tf (fun _ => some r) := Or.inr (Or.inl ⟨r, fun _ => rfl⟩)
theorem tf_k {pc : Nat} {l s : List jx_V} {h : jx_H} : jx_tf (fun k => k pc l s h) := Or.inr (Or.inr ⟨pc, l, s, h, fun _ => rfl⟩)
theorem tf_ite {c : Prop} {f g : jx_K → Option jx_R} (hf : jx_tf f) (hg : jx_tf g) : jx_tf (fun k => jx_if c (f k) (g k)) := by
  by_cases hc : c
  · simp only [jx_ifp hc]; exact hf
  · simp only [jx_ifn hc]; exact hg
theorem tf_cond {b : Bool} {f g : jx_K → Option jx_R} (hf : jx_tf f) (hg : jx_tf g) : jx_tf (fun k => bif b then f k else g k) := by
  cases b
  · exact hg
  · exact hf
theorem tf_bI {o : Option jx_R} {f : jx_K → Int32 → jx_H → Option jx_R} (hf : ∀ x h, jx_tf (fun k => f k x h)) : jx_tf (fun k => jx_bI o (f k)) := by
  rcases o with _ | ⟨_ | ⟨(x | x) | x, _ | ⟨y, t⟩⟩, h⟩ <;> first | exact tf_none | exact hf _ _
theorem tf_bL {o : Option jx_R} {f : jx_K → Int64 → jx_H → Option jx_R} (hf : ∀ x h, jx_tf (fun k => f k x h)) : jx_tf (fun k => jx_bL o (f k)) := by
  rcases o with _ | ⟨_ | ⟨(x | x) | x, _ | ⟨y, t⟩⟩, h⟩ <;> first | exact tf_none | exact hf _ _
theorem tf_bV {o : Option jx_R} {f : jx_K → jx_H → Option jx_R} (hf : ∀ h, jx_tf (fun k => f k h)) : jx_tf (fun k => jx_bV o (f k)) := by
  rcases o with _ | ⟨_ | ⟨y, t⟩, h⟩ <;> first | exact tf_none | exact hf _
theorem tf_sws {df : Nat} {x : Int32} {l s : List jx_V} {h : jx_H} : ∀ (ts : List (Int32 × Nat)), jx_tf (fun k => jx_sws df x (fun t => k t l s h) ts) := by
  intro ts
  induction ts with
  | nil => exact tf_k
  | cons t r ih => exact tf_ite tf_k ih
theorem tl_push {v : jx_V} {nx : Nat} : jx_tl (jx_push v nx) := fun _ _ _ => tf_k
theorem tl_go {nx : Nat} : jx_tl (jx_go nx) := fun _ _ _ => tf_k
theorem tl_gst {nx : Nat} : jx_tl (jx_gst nx) := fun _ _ _ => tf_k
theorem tl_i2 {f : Int32 → Int32 → Int32} {nx : Nat} : jx_tl (jx_i2 f nx) := by
  intro l s h
  rcases s with _ | ⟨(x1 | x1) | (_ | ⟨c1, i1⟩), _ | ⟨(x0 | x0) | (_ | ⟨c0, i0⟩), s⟩⟩ <;> first | exact tf_none | exact tf_k
theorem tl_dv {f : Int32 → Int32 → Int32} {nx : Nat} : jx_tl (jx_dv f nx) := by
  intro l s h
  rcases s with _ | ⟨(x1 | x1) | (_ | ⟨c1, i1⟩), _ | ⟨(x0 | x0) | (_ | ⟨c0, i0⟩), s⟩⟩ <;> first | exact tf_none | exact tf_ite tf_none tf_k
theorem tl_i1 {f : Int32 → Int32} {nx : Nat} : jx_tl (jx_i1 f nx) := by
  intro l s h
  rcases s with _ | ⟨(x0 | x0) | (_ | ⟨c0, i0⟩), s⟩ <;> first | exact tf_none | exact tf_k
theorem tl_i2l {nx : Nat} : jx_tl (jx_i2l nx) := by
  intro l s h
  rcases s with _ | ⟨(x0 | x0) | (_ | ⟨c0, i0⟩), s⟩ <;> first | exact tf_none | exact tf_k
theorem tl_l2 {f : Int64 → Int64 → Int64} {nx : Nat} : jx_tl (jx_l2 f nx) := by
  intro l s h
  rcases s with _ | ⟨(x1 | x1) | (_ | ⟨c1, i1⟩), _ | ⟨(x0 | x0) | (_ | ⟨c0, i0⟩), s⟩⟩ <;> first | exact tf_none | exact tf_k
theorem tl_lsh {nx : Nat} : jx_tl (jx_lsh nx) := by
  intro l s h
  rcases s with _ | ⟨(x1 | x1) | (_ | ⟨c1, i1⟩), _ | ⟨(x0 | x0) | (_ | ⟨c0, i0⟩), s⟩⟩ <;> first | exact tf_none | exact tf_k
theorem tl_lcm {nx : Nat} : jx_tl (jx_lcm nx) := by
  intro l s h
  rcases s with _ | ⟨(x1 | x1) | (_ | ⟨c1, i1⟩), _ | ⟨(x0 | x0) | (_ | ⟨c0, i0⟩), s⟩⟩ <;> first | exact tf_none | exact tf_k
theorem tl_dup {nx : Nat} : jx_tl (jx_dup nx) := by
  intro l s h
  rcases s with _ | ⟨(x0 | x0) | (_ | ⟨c0, i0⟩), s⟩ <;> first | exact tf_none | exact tf_k
theorem tl_dup2 {nx : Nat} : jx_tl (jx_dup2 nx) := by
  intro l s h
  rcases s with _ | ⟨(x1 | x1) | (_ | ⟨c1, i1⟩), _ | ⟨(x0 | x0) | (_ | ⟨c0, i0⟩), s⟩⟩ <;> first | exact tf_none | exact tf_k
theorem tl_pop {nx : Nat} : jx_tl (jx_pop nx) := by
  intro l s h
  rcases s with _ | ⟨(x0 | x0) | (_ | ⟨c0, i0⟩), s⟩ <;> first | exact tf_none | exact tf_k
theorem tl_eq0 {t nx : Nat} : jx_tl (jx_eq0 t nx) := by
  intro l s h
  rcases s with _ | ⟨(x0 | x0) | (_ | ⟨c0, i0⟩), s⟩ <;> first | exact tf_none | exact tf_ite tf_k tf_k
theorem tl_ne0 {t nx : Nat} : jx_tl (jx_ne0 t nx) := by
  intro l s h
  rcases s with _ | ⟨(x0 | x0) | (_ | ⟨c0, i0⟩), s⟩ <;> first | exact tf_none | exact tf_ite tf_k tf_k
theorem tl_lt0 {t nx : Nat} : jx_tl (jx_lt0 t nx) := by
  intro l s h
  rcases s with _ | ⟨(x0 | x0) | (_ | ⟨c0, i0⟩), s⟩ <;> first | exact tf_none | exact tf_ite tf_k tf_k
theorem tl_ge0 {t nx : Nat} : jx_tl (jx_ge0 t nx) := by
  intro l s h
  rcases s with _ | ⟨(x0 | x0) | (_ | ⟨c0, i0⟩), s⟩ <;> first | exact tf_none | exact tf_ite tf_k tf_k
theorem tl_gt0 {t nx : Nat} : jx_tl (jx_gt0 t nx) := by
  intro l s h
  rcases s with _ | ⟨(x0 | x0) | (_ | ⟨c0, i0⟩), s⟩ <;> first | exact tf_none | exact tf_ite tf_k tf_k
theorem tl_le0 {t nx : Nat} : jx_tl (jx_le0 t nx) := by
  intro l s h
  rcases s with _ | ⟨(x0 | x0) | (_ | ⟨c0, i0⟩), s⟩ <;> first | exact tf_none | exact tf_ite tf_k tf_k
theorem tl_ceq {t nx : Nat} : jx_tl (jx_ceq t nx) := by
  intro l s h
  rcases s with _ | ⟨(x1 | x1) | (_ | ⟨c1, i1⟩), _ | ⟨(x0 | x0) | (_ | ⟨c0, i0⟩), s⟩⟩ <;> first | exact tf_none | exact tf_ite tf_k tf_k
theorem tl_cne {t nx : Nat} : jx_tl (jx_cne t nx) := by
  intro l s h
  rcases s with _ | ⟨(x1 | x1) | (_ | ⟨c1, i1⟩), _ | ⟨(x0 | x0) | (_ | ⟨c0, i0⟩), s⟩⟩ <;> first | exact tf_none | exact tf_ite tf_k tf_k
theorem tl_clt {t nx : Nat} : jx_tl (jx_clt t nx) := by
  intro l s h
  rcases s with _ | ⟨(x1 | x1) | (_ | ⟨c1, i1⟩), _ | ⟨(x0 | x0) | (_ | ⟨c0, i0⟩), s⟩⟩ <;> first | exact tf_none | exact tf_ite tf_k tf_k
theorem tl_cge {t nx : Nat} : jx_tl (jx_cge t nx) := by
  intro l s h
  rcases s with _ | ⟨(x1 | x1) | (_ | ⟨c1, i1⟩), _ | ⟨(x0 | x0) | (_ | ⟨c0, i0⟩), s⟩⟩ <;> first | exact tf_none | exact tf_ite tf_k tf_k
theorem tl_cgt {t nx : Nat} : jx_tl (jx_cgt t nx) := by
  intro l s h
  rcases s with _ | ⟨(x1 | x1) | (_ | ⟨c1, i1⟩), _ | ⟨(x0 | x0) | (_ | ⟨c0, i0⟩), s⟩⟩ <;> first | exact tf_none | exact tf_ite tf_k tf_k
theorem tl_cle {t nx : Nat} : jx_tl (jx_cle t nx) := by
  intro l s h
  rcases s with _ | ⟨(x1 | x1) | (_ | ⟨c1, i1⟩), _ | ⟨(x0 | x0) | (_ | ⟨c0, i0⟩), s⟩⟩ <;> first | exact tf_none | exact tf_ite tf_k tf_k
theorem tl_sw {ts : List (Int32 × Nat)} {df : Nat} : jx_tl (jx_sw ts df) := by
  intro l s h
  rcases s with _ | ⟨(x0 | x0) | (_ | ⟨c0, i0⟩), s⟩ <;> first | exact tf_none | exact tf_sws ts
theorem tl_gI {c f nx : Nat} : jx_tl (jx_gI c f nx) := by
  intro l s h
  rcases s with _ | ⟨(x0 | x0) | (_ | ⟨c0, i0⟩), s⟩ <;> first | exact tf_none | exact tf_cond tf_k tf_none
theorem tl_gR {c tc : Nat} {ti : Nat → Nat} {nx : Nat} : jx_tl (jx_gR c tc ti nx) := by
  intro l s h
  rcases s with _ | ⟨(x0 | x0) | (_ | ⟨c0, i0⟩), s⟩ <;> first | exact tf_none | exact tf_cond tf_k tf_none
theorem tl_gM {c f tc ti nx : Nat} : jx_tl (jx_gM c f tc ti nx) := by
  intro l s h
  rcases s with _ | ⟨(x0 | x0) | (_ | ⟨c0, i0⟩), s⟩ <;> first | exact tf_none | exact tf_cond (tf_ite tf_k tf_none) tf_none
theorem tl_pI {c f nx : Nat} : jx_tl (jx_pI c f nx) := by
  intro l s h
  rcases s with _ | ⟨(x1 | x1) | (_ | ⟨c1, i1⟩), _ | ⟨(x0 | x0) | (_ | ⟨c0, i0⟩), s⟩⟩ <;> first | exact tf_none | exact tf_cond tf_k tf_none
theorem tl_pZ {c f nx : Nat} : jx_tl (jx_pZ c f nx) := by
  intro l s h
  rcases s with _ | ⟨(x1 | x1) | (_ | ⟨c1, i1⟩), _ | ⟨(x0 | x0) | (_ | ⟨c0, i0⟩), s⟩⟩ <;> first | exact tf_none | exact tf_cond (tf_ite tf_k tf_none) tf_none
theorem tl_pM {c f tc ti nx : Nat} : jx_tl (jx_pM c f tc ti nx) := by
  intro l s h
  rcases s with _ | ⟨(x1 | x1) | (_ | ⟨c1, i1⟩), _ | ⟨(x0 | x0) | (_ | ⟨c0, i0⟩), s⟩⟩ <;> first | exact tf_none | exact tf_cond tf_k tf_none
theorem tl_iald {nx : Nat} : jx_tl (jx_iald nx) := by
  intro l s h
  rcases s with _ | ⟨(x1 | x1) | (_ | ⟨c1, i1⟩), _ | ⟨(x0 | x0) | (_ | ⟨c0, i0⟩), s⟩⟩ <;> first | exact tf_none | exact tf_cond (tf_ite tf_k tf_none) tf_none
theorem tl_bald {nx : Nat} : jx_tl (jx_bald nx) := by
  intro l s h
  rcases s with _ | ⟨(x1 | x1) | (_ | ⟨c1, i1⟩), _ | ⟨(x0 | x0) | (_ | ⟨c0, i0⟩), s⟩⟩ <;> first | exact tf_none | exact tf_cond (tf_ite tf_k tf_none) tf_none
theorem tl_lald {nx : Nat} : jx_tl (jx_lald nx) := by
  intro l s h
  rcases s with _ | ⟨(x1 | x1) | (_ | ⟨c1, i1⟩), _ | ⟨(x0 | x0) | (_ | ⟨c0, i0⟩), s⟩⟩ <;> first | exact tf_none | exact tf_cond (tf_ite tf_k tf_none) tf_none
theorem tl_aald {nx : Nat} : jx_tl (jx_aald nx) := by
  intro l s h
  rcases s with _ | ⟨(x1 | x1) | (_ | ⟨c1, i1⟩), _ | ⟨(x0 | x0) | (_ | ⟨c0, i0⟩), s⟩⟩ <;> first | exact tf_none | exact tf_cond (tf_ite tf_k tf_none) tf_none
theorem tl_iast {nx : Nat} : jx_tl (jx_iast nx) := by
  intro l s h
  rcases s with _ | ⟨(x2 | x2) | (_ | ⟨c2, i2⟩), _ | ⟨(x1 | x1) | (_ | ⟨c1, i1⟩), _ | ⟨(x0 | x0) | (_ | ⟨c0, i0⟩), s⟩⟩⟩ <;> first | exact tf_none | exact tf_cond (tf_ite tf_k tf_none) tf_none
theorem tl_last {nx : Nat} : jx_tl (jx_last nx) := by
  intro l s h
  rcases s with _ | ⟨(x2 | x2) | (_ | ⟨c2, i2⟩), _ | ⟨(x1 | x1) | (_ | ⟨c1, i1⟩), _ | ⟨(x0 | x0) | (_ | ⟨c0, i0⟩), s⟩⟩⟩ <;> first | exact tf_none | exact tf_cond (tf_ite tf_k tf_none) tf_none
theorem tl_bast {nx : Nat} : jx_tl (jx_bast nx) := by
  intro l s h
  rcases s with _ | ⟨(x2 | x2) | (_ | ⟨c2, i2⟩), _ | ⟨(x1 | x1) | (_ | ⟨c1, i1⟩), _ | ⟨(x0 | x0) | (_ | ⟨c0, i0⟩), s⟩⟩⟩ <;> first | exact tf_none | exact tf_cond (tf_ite (tf_ite tf_k tf_none) tf_none) tf_none
theorem tl_sln {nx : Nat} : jx_tl (jx_sln nx) := by
  intro l s h
  rcases s with _ | ⟨(x0 | x0) | (_ | ⟨c0, i0⟩), s⟩ <;> first | exact tf_none | exact tf_cond tf_k tf_none
theorem tl_sld {nx : Nat} : jx_tl (jx_sld nx) := by
  intro l s h
  rcases s with _ | ⟨(x1 | x1) | (_ | ⟨c1, i1⟩), _ | ⟨(x0 | x0) | (_ | ⟨c0, i0⟩), s⟩⟩ <;> first | exact tf_none | exact tf_cond (tf_ite tf_k tf_none) tf_none
theorem tl_acp {nx : Nat} : jx_tl (jx_acp nx) := by
  intro l s h
  show jx_tf (fun k => jx_acp nx k l s h)
  unfold jx_acp
  split
  · exact tf_cond (tf_ite tf_k tf_none) tf_none
  · exact tf_none
theorem tl_ldI {i nx : Nat} : jx_tl (jx_ldI i nx) := by
  intro l s h
  show jx_tf (fun k => jx_ldI i nx k l s h)
  unfold jx_ldI
  rcases jx_nth l i with (x | x) | (_ | r) <;> first | exact tf_none | exact tf_k
theorem tl_ldL {i nx : Nat} : jx_tl (jx_ldL i nx) := by
  intro l s h
  show jx_tf (fun k => jx_ldL i nx k l s h)
  unfold jx_ldL
  rcases jx_nth l i with (x | x) | (_ | r) <;> first | exact tf_none | exact tf_k
theorem tl_ldR {i nx : Nat} : jx_tl (jx_ldR i nx) := by
  intro l s h
  show jx_tf (fun k => jx_ldR i nx k l s h)
  unfold jx_ldR
  rcases jx_nth l i with (x | x) | (_ | r) <;> first | exact tf_none | exact tf_k
theorem tl_incI {i nL : Nat} {c : Int32} {nx : Nat} : jx_tl (jx_incI i nL c nx) := by
  intro l s h
  show jx_tf (fun k => jx_incI i nL c nx k l s h)
  unfold jx_incI
  rcases jx_nth l i with (x | x) | (_ | r) <;> first | exact tf_none | exact tf_cond tf_k tf_none
theorem tl_stI {i nL nx : Nat} : jx_tl (jx_stI i nL nx) := by
  intro l s h
  rcases s with _ | ⟨(x0 | x0) | (_ | ⟨c0, i0⟩), s⟩ <;> first | exact tf_none | exact tf_cond tf_k tf_none
theorem tl_stR {i nL nx : Nat} : jx_tl (jx_stR i nL nx) := by
  intro l s h
  rcases s with _ | ⟨(x0 | x0) | (_ | ⟨c0, i0⟩), s⟩ <;> first | exact tf_none | exact tf_cond tf_k tf_none
theorem tl_stL {i nL nx : Nat} : jx_tl (jx_stL i nL nx) := by
  intro l s h
  rcases s with _ | ⟨(x0 | x0) | (_ | ⟨c0, i0⟩), s⟩ <;> first | exact tf_none | exact tf_cond tf_k tf_none
theorem tl_cI {D : jx_D} {y n nx : Nat} : jx_tl (jx_cI D y n nx) := by
  intro l s h
  show jx_tf (fun k => jx_cI D y n nx k l s h)
  unfold jx_cI
  rcases jx_tk n [] s with _ | ⟨a, s⟩
  · exact tf_none
  · exact tf_cond (tf_bI (fun _ _ => tf_k)) tf_none
theorem tl_vI {D : jx_D} {y c n nx : Nat} : jx_tl (jx_vI D y c n nx) := by
  intro l s h
  show jx_tf (fun k => jx_vI D y c n nx k l s h)
  unfold jx_vI
  rcases jx_tk n [] s with _ | ⟨_ | ⟨(x | x) | (_ | ⟨c', i⟩), a⟩, s⟩ <;> first | exact tf_none | exact tf_cond (tf_bI (fun _ _ => tf_k)) tf_none
theorem tl_cL {D : jx_D} {y n nx : Nat} : jx_tl (jx_cL D y n nx) := by
  intro l s h
  show jx_tf (fun k => jx_cL D y n nx k l s h)
  unfold jx_cL
  rcases jx_tk n [] s with _ | ⟨a, s⟩
  · exact tf_none
  · exact tf_cond (tf_bL (fun _ _ => tf_k)) tf_none
theorem tl_vL {D : jx_D} {y c n nx : Nat} : jx_tl (jx_vL D y c n nx) := by
  intro l s h
  show jx_tf (fun k => jx_vL D y c n nx k l s h)
  unfold jx_vL
  rcases jx_tk n [] s with _ | ⟨_ | ⟨(x | x) | (_ | ⟨c', i⟩), a⟩, s⟩ <;> first | exact tf_none | exact tf_cond (tf_bL (fun _ _ => tf_k)) tf_none
theorem tl_cV {D : jx_D} {y n nx : Nat} : jx_tl (jx_cV D y n nx) := by
  intro l s h
  show jx_tf (fun k => jx_cV D y n nx k l s h)
  unfold jx_cV
  rcases jx_tk n [] s with _ | ⟨a, s⟩
  · exact tf_none
  · exact tf_cond (tf_bV (fun _ => tf_k)) tf_none
theorem tl_vV {D : jx_D} {y c n nx : Nat} : jx_tl (jx_vV D y c n nx) := by
  intro l s h
  show jx_tf (fun k => jx_vV D y c n nx k l s h)
  unfold jx_vV
  rcases jx_tk n [] s with _ | ⟨_ | ⟨(x | x) | (_ | ⟨c', i⟩), a⟩, s⟩ <;> first | exact tf_none | exact tf_cond (tf_bV (fun _ => tf_k)) tf_none
theorem tl_rI : jx_tl jx_rI := by
  intro l s h
  rcases s with _ | ⟨(x | x) | (_ | r), _ | ⟨y, s⟩⟩ <;> first | exact tf_none | exact tf_some
theorem tl_rZ : jx_tl jx_rZ := by
  intro l s h
  rcases s with _ | ⟨(x | x) | (_ | r), _ | ⟨y, s⟩⟩ <;> first | exact tf_none | exact tf_ite tf_some tf_none
theorem tl_rL : jx_tl jx_rL := by
  intro l s h
  rcases s with _ | ⟨(x | x) | (_ | r), _ | ⟨y, s⟩⟩ <;> first | exact tf_none | exact tf_some
theorem tl_rV : jx_tl jx_rV := by
  intro l s h
  rcases s with _ | ⟨y, s⟩ <;> first | exact tf_none | exact tf_some
theorem jx_tlm {t : List (Nat × jx_A)} (h : jx_all (fun q => jx_tl q.2) t) : ∀ pc, jx_tl (jx_look t pc) := jx_look_tl (jx_all_mem h)
