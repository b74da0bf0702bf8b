/-! A NODE COMES: both programs -/
section D1
variable {n : NS} {m : YS} {N k t c : Int} {o e p : Int → Int}
theorem J_room (h : JS n m N o e p) (h0 : 0 ≤ k) (h1 : k < N) : N_Tree_hasRoom (o k) n = some (if N < 120 ∧ m 54 (o k) < 20 then 1 else 0) := by
  have hv := h.1.oB h0 h1
  have hl := h.2.2.2.2.1 k h0 h1
  unfold N_Tree_hasRoom ix
  rw [h.2.2.2.2.2.1, hl.1.2.2.2.2.1]
  by_cases z1 : N < 120
  · rw [if_pos z1, if_pos hv]
    by_cases z2 : m 54 (o k) < 20
    · rw [if_pos z2, if_pos ⟨z1, z2⟩]
    · rw [if_neg z2, if_neg (fun z => z2 z.2)]
  · rw [if_neg z1, if_neg (fun z => z1 z.1)]
theorem JS.lastB (h : JS n m N o e p) (h0 : 0 ≤ k) (h1 : k < N) : m 51 (o k) = -1 ∨ (0 ≤ m 51 (o k) ∧ m 51 (o k) < 120 ∧ m 45 (m 51 (o k)) ≠ 0) := by
  rcases h.last h0 h1 with ⟨_, z⟩ | ⟨j, a, b, _, _, z⟩
  · exact .inl z
  · have := h.live (k := j) (by omega) b
    rw [z]; exact .inr ⟨this.2.2.1, this.2.2.2, by omega⟩
theorem J_fresh (h : JS n m N o e p) (h0 : 0 ≤ k) (h1 : k < N) (hc : m 69 0 < 2000000000) : N_Y_fresh (o k) m = some (if N < 120 ∧ m 54 (o k) < 20 then (frY m, newY m (frY m) (o k) (m 54 (o k) + 1)) else (-1, m)) := by
  have hlv := h.live h0 h1
  have hl := h.2.2.2.2.1 k h0 h1
  have hb := h.2.2.2.2.2
  have hl2 : 0 ≤ m 54 (o k) ∧ m 54 (o k) ≤ 20 := ⟨hl.2.1, hl.2.2.1⟩
  have hN := h.1.N1
  have hr := h.room
  obtain ⟨r, e1, e2⟩ := y_fresh (m := m) (q := o k) (.inr ⟨hlv.2.2.1, hlv.2.2.2, by omega⟩) (fun _ => hl2) (fun _ => h.lastB h0 h1) (by omega)
  rw [e1]
  by_cases z : N < 120 ∧ m 54 (o k) < 20
  · rw [if_neg (by omega), if_neg (by omega)] at e2
    rw [if_pos z, e2]
  · rw [if_pos (by omega)] at e2
    rw [if_neg z, e2]
theorem J_grow (h : JS n m N o e p) (hK : JK n N o p) (hL : JL n N o e) (h0 : 0 ≤ k) (h1 : k < N) (hN : N < 120) (hd : m 54 (o k) < 20) (ht : t ≠ -1) (hc : 0 ≤ n 10 0 6 ∧ n 10 0 6 < 2000000000 ∧ m 69 0 < 2000000000) :
    N_Tree_grow (o k) t c n = some (frY m, newC n (frY m) (o k) t c)
      ∧ JS (newC n (frY m) (o k) t c) (newY m (frY m) (o k) (m 54 (o k) + 1)) (N + 1) (insO o (e k) (frY m)) (insE e k (e k)) (insP p k (e k))
      ∧ JK (newC n (frY m) (o k) t c) (N + 1) (insO o (e k) (frY m)) (insP p k (e k))
      ∧ JL (newC n (frY m) (o k) t c) (N + 1) (insO o (e k) (frY m)) (insE e k (e k)) := by
  have hlv := h.live h0 h1
  have hl := h.2.2.2.2.1 k h0 h1
  have hb := h.2.2.2.2.2
  have hl2 : 0 ≤ m 54 (o k) ∧ m 54 (o k) ≤ 20 := ⟨hl.2.1, hl.2.2.1⟩
  have hN1 := h.1.N1
  obtain ⟨f1, f2, f3, f4, f5, f6⟩ := h.fr hN
  have hkb := kct_b (p := p) (k := k) hN1.1
  have hk6 := hK k h0 h1
  refine ⟨?_, JS_new h h0 h1 hN hd ht, JK_new h hK h0 h1 hN, ?_⟩
  · have := c_grow (n := n) (q := o k) (t := t) (c := c) (.inr ⟨hlv.2.2.1, hlv.2.2.2, hlv.2.1⟩) (by rw [f1]; exact f5) (fun _ => by rw [hl.1.2.2.2.2.1]; omega) (fun _ => by
      rw [hl.1.2.2.1]
      rcases h.lastB h0 h1 with z | z
      · exact .inl z
      · exact .inr ⟨z.1, z.2.1⟩) (fun _ => by omega) (by omega)
    rw [this, f1]
  · have e4 : newC n (frY m) (o k) t c 10 0 4 = n 10 0 4 := by rw [newC_10, if_neg (by decide), if_neg (by decide), if_neg (by decide)]
    have e6 : newC n (frY m) (o k) t c 10 0 6 = n 10 0 6 + 1 := by rw [newC_10, if_neg (by decide), if_pos rfl]
    have := hL.1
    exact ⟨by rw [e4, e6]; omega, fun z => by rw [e4, e6] at z; omega⟩
end D1
