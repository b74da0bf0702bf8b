/-! THE CALLS, both programs as they are -/
section YZT
variable {g : g_S} {n : NS} {m : YS} {k : Int} {a1 a2 a3 a4 a5 : Int32}
theorem INV.up (h : INV k n m) : INV (k + 1) n m := by
  obtain ⟨As, Bs, A, B, G, h1, ⟨h2, h3, h4⟩, h5, h6, h7⟩ := h
  exact ⟨As, Bs, A, B, G, h1, ⟨by omega, by omega, by omega⟩, h5, h6, by omega⟩
theorem inv_gn {n' : NS} {m' : YS} (hR : RC True True g n' m) (h : INV k n' m') : gn g ≤ 1000000 := by
  obtain ⟨As, Bs, A, B, G, hC, _⟩ := h
  have := hC.1.bi.cells
  have := hR.1.1
  omega
theorem oj32 (x : Int32) : x = Int32.ofInt x.toInt := (Int32.ofInt_toInt x).symm
theorem b_feed (a1 : Int32) (a2 : Int32) (a3 : Int32) (a4 : Int32) (a5 : Int32) (hR : RC True True g n m) (h : INV k n m) (hk : k ≤ 64) : ∃ r g1 g2 n' m', M_H_feed 0 a1 a2 a3 a4 a5 g = some (r, g1) ∧ M_Y_feed 1838 a1 a2 a3 a4 a5 g1 = some (r, g2) ∧ RC True True g2 n' m' ∧ INV (k + 1) n' m' ∧ gt g1 1838 = 112 ∧ gn g1 ≤ 1000000 := by
  obtain ⟨r, n', m', h1, h2, h3⟩ := s_feed h
  obtain ⟨x, e1, e2, e3⟩ := f_H_feed trivial (oj32 a1) (r32 a1) (oj32 a2) (r32 a2) (oj32 a3) (r32 a3) (oj32 a4) (r32 a4) (oj32 a5) (r32 a5) hR _ h1
  obtain ⟨y, d1, d2, d3⟩ := f_Y_feed trivial (oj32 a1) (r32 a1) (oj32 a2) (r32 a2) (oj32 a3) (r32 a3) (oj32 a4) (r32 a4) (oj32 a5) (r32 a5) e3 _ h2
  exact ⟨x.1, x.2, y.2, n', m', e1, by rw [d1, e2.1]; exact congrArg some (Prod.ext d2.1 rfl), d3, h3, y_gt e3 trivial, inv_gn e3 h3⟩
theorem b_end (a1 : Int32) (hR : RC True True g n m) (h : INV k n m) (hk : k ≤ 64) : ∃ r g1 g2 n' m', M_H_end 0 a1 g = some (r, g1) ∧ M_Y_end 1838 a1 g1 = some (r, g2) ∧ RC True True g2 n' m' ∧ INV (k + 1) n' m' ∧ gt g1 1838 = 112 ∧ gn g1 ≤ 1000000 := by
  obtain ⟨r, n', m', h1, h2, h3⟩ := s_end h
  obtain ⟨x, e1, e2, e3⟩ := f_H_end trivial (oj32 a1) (r32 a1) hR _ h1
  obtain ⟨y, d1, d2, d3⟩ := f_Y_end trivial (oj32 a1) (r32 a1) e3 _ h2
  exact ⟨x.1, x.2, y.2, n', m', e1, by rw [d1, e2.1]; exact congrArg some (Prod.ext d2.1 rfl), d3, h3, y_gt e3 trivial, inv_gn e3 h3⟩
theorem b_out (a1 : Int32) (hR : RC True True g n m) (h : INV k n m) (hk : k ≤ 64) : ∃ r, M_H_out 0 a1 g = some r ∧ M_Y_out 1838 a1 g = some r := by
  obtain ⟨r, h1, h2⟩ := s_out h
  obtain ⟨x, e1, e2⟩ := f_H_out trivial (oj32 a1) (r32 a1) hR _ h1
  obtain ⟨y, d1, d2⟩ := f_Y_out trivial (oj32 a1) (r32 a1) hR _ h2
  exact ⟨x, e1, by rw [d1, e2.1, d2.1]⟩
theorem b_resolve (hR : RC True True g n m) (h : INV k n m) (hk : k ≤ 64) : ∃ r g1 g2 n' m', M_H_resolve 0 g = some (r, g1) ∧ M_Y_resolve 1838 g1 = some (r, g2) ∧ RC True True g2 n' m' ∧ INV (k + 1) n' m' ∧ gt g1 1838 = 112 ∧ gn g1 ≤ 1000000 := by
  obtain ⟨r, n', m', h1, h2, h3⟩ := s_resolve h
  obtain ⟨x, e1, e2, e3⟩ := f_H_resolve trivial hR _ h1
  obtain ⟨y, d1, d2, d3⟩ := f_Y_resolve trivial e3 _ h2
  exact ⟨x.1, x.2, y.2, n', m', e1, by rw [d1, e2.1]; exact congrArg some (Prod.ext d2.1 rfl), d3, h3, y_gt e3 trivial, inv_gn e3 h3⟩
theorem b_server (hR : RC True True g n m) (h : INV k n m) (hk : k ≤ 64) : ∃ r g1 g2 n' m', M_H_server 0 g = some (r, g1) ∧ M_Y_server 1838 g1 = some (r, g2) ∧ RC True True g2 n' m' ∧ INV (k + 1) n' m' ∧ gt g1 1838 = 112 ∧ gn g1 ≤ 1000000 := by
  obtain ⟨r, n', m', h1, h2, h3⟩ := s_server h hk
  obtain ⟨x, e1, e2, e3⟩ := f_H_server trivial hR _ h1
  obtain ⟨y, d1, d2, d3⟩ := f_Y_server trivial e3 _ h2
  exact ⟨x.1, x.2, y.2, n', m', e1, by rw [d1, e2.1]; exact congrArg some (Prod.ext d2.1 rfl), d3, h3, y_gt e3 trivial, inv_gn e3 h3⟩
theorem b_visit (hR : RC True True g n m) (h : INV k n m) (hk : k ≤ 64) : ∃ r g1 g2 n' m', M_H_visit 0 g = some (r, g1) ∧ M_Y_visit 1838 g1 = some (r, g2) ∧ RC True True g2 n' m' ∧ INV (k + 1) n' m' ∧ gt g1 1838 = 112 ∧ gn g1 ≤ 1000000 := by
  obtain ⟨r, n', m', h1, h2, h3⟩ := s_visit h hk
  obtain ⟨x, e1, e2, e3⟩ := f_H_visit trivial hR _ h1
  obtain ⟨y, d1, d2, d3⟩ := f_Y_visit trivial e3 _ h2
  exact ⟨x.1, x.2, y.2, n', m', e1, by rw [d1, e2.1]; exact congrArg some (Prod.ext d2.1 rfl), d3, h3, y_gt e3 trivial, inv_gn e3 h3⟩
theorem b_page (hR : RC True True g n m) (h : INV k n m) (hk : k ≤ 64) : ∃ r g1 g2 n' m', M_H_page 0 g = some (r, g1) ∧ M_Y_page 1838 g1 = some (r, g2) ∧ RC True True g2 n' m' ∧ INV (k + 1) n' m' ∧ gt g1 1838 = 112 ∧ gn g1 ≤ 1000000 := by
  obtain ⟨r, n', m', h1, h2, h3⟩ := s_page h hk
  obtain ⟨x, e1, e2, e3⟩ := f_H_page trivial hR _ h1
  obtain ⟨y, d1, d2, d3⟩ := f_Y_page trivial e3 _ h2
  exact ⟨x.1, x.2, y.2, n', m', e1, by rw [d1, e2.1]; exact congrArg some (Prod.ext d2.1 rfl), d3, h3, y_gt e3 trivial, inv_gn e3 h3⟩
theorem b_history (a1 : Int32) (hR : RC True True g n m) (h : INV k n m) (hk : k ≤ 64) : ∃ r g1 g2 n' m', M_H_history 0 a1 g = some (r, g1) ∧ M_Y_history 1838 a1 g1 = some (r, g2) ∧ RC True True g2 n' m' ∧ INV (k + 1) n' m' ∧ gt g1 1838 = 112 ∧ gn g1 ≤ 1000000 := by
  obtain ⟨r, n', m', h1, h2, h3⟩ := s_history h hk (r32 a1)
  obtain ⟨x, e1, e2, e3⟩ := f_H_history trivial (oj32 a1) (r32 a1) hR _ h1
  obtain ⟨y, d1, d2, d3⟩ := f_Y_history trivial (oj32 a1) (r32 a1) e3 _ h2
  exact ⟨x.1, x.2, y.2, n', m', e1, by rw [d1, e2.1]; exact congrArg some (Prod.ext d2.1 rfl), d3, h3, y_gt e3 trivial, inv_gn e3 h3⟩
theorem b_write (a1 : Int32) (hR : RC True True g n m) (h : INV k n m) (hk : k ≤ 64) : ∃ r g1 g2 n' m', M_H_write 0 a1 g = some (r, g1) ∧ M_Y_write 1838 a1 g1 = some (r, g2) ∧ RC True True g2 n' m' ∧ INV (k + 1) n' m' ∧ gt g1 1838 = 112 ∧ gn g1 ≤ 1000000 := by
  obtain ⟨r, n', m', h1, h2, h3⟩ := s_write h
  obtain ⟨x, e1, e2, e3⟩ := f_H_write trivial (oj32 a1) (r32 a1) hR _ h1
  obtain ⟨y, d1, d2, d3⟩ := f_Y_write trivial (oj32 a1) (r32 a1) e3 _ h2
  exact ⟨x.1, x.2, y.2, n', m', e1, by rw [d1, e2.1]; exact congrArg some (Prod.ext d2.1 rfl), d3, h3, y_gt e3 trivial, inv_gn e3 h3⟩
theorem b_tick (a1 : Int32) (hR : RC True True g n m) (h : INV k n m) (hk : k ≤ 64) : ∃ r g1 g2 n' m', M_H_tick 0 a1 g = some (r, g1) ∧ M_Y_tick 1838 a1 g1 = some (r, g2) ∧ RC True True g2 n' m' ∧ INV (k + 1) n' m' ∧ gt g1 1838 = 112 ∧ gn g1 ≤ 1000000 := by
  obtain ⟨r, n', m', h1, h2, h3⟩ := s_tick h hk
  obtain ⟨x, e1, e2, e3⟩ := f_H_tick trivial (oj32 a1) (r32 a1) hR _ h1
  obtain ⟨y, d1, d2, d3⟩ := f_Y_tick trivial (oj32 a1) (r32 a1) e3 _ h2
  exact ⟨x.1, x.2, y.2, n', m', e1, by rw [d1, e2.1]; exact congrArg some (Prod.ext d2.1 rfl), d3, h3, y_gt e3 trivial, inv_gn e3 h3⟩
theorem b_node (a1 : Int32) (a2 : Int32) (hR : RC True True g n m) (h : INV k n m) (hk : k ≤ 64) : ∃ r, M_H_node 0 a1 a2 g = some r ∧ M_Y_node 1838 a1 a2 g = some r := by
  obtain ⟨r, h1, h2⟩ := s_node h
  obtain ⟨x, e1, e2⟩ := f_H_node trivial (oj32 a1) (r32 a1) (oj32 a2) (r32 a2) hR _ h1
  obtain ⟨y, d1, d2⟩ := f_Y_node trivial (oj32 a1) (r32 a1) (oj32 a2) (r32 a2) hR _ h2
  exact ⟨x, e1, by rw [d1, e2.1, d2.1]⟩
theorem b_kid (a1 : Int32) (a2 : Int32) (hR : RC True True g n m) (h : INV k n m) (hk : k ≤ 64) : ∃ r, M_H_kid 0 a1 a2 g = some r ∧ M_Y_kid 1838 a1 a2 g = some r := by
  obtain ⟨r, h1, h2⟩ := s_kid h (r32 a2).2
  obtain ⟨x, e1, e2⟩ := f_H_kid trivial (oj32 a1) (r32 a1) (oj32 a2) (r32 a2) hR _ h1
  obtain ⟨y, d1, d2⟩ := f_Y_kid trivial (oj32 a1) (r32 a1) (oj32 a2) (r32 a2) hR _ h2
  exact ⟨x, e1, by rw [d1, e2.1, d2.1]⟩
theorem b_name (a1 : Int32) (hR : RC True True g n m) (h : INV k n m) (hk : k ≤ 64) : ∃ r g1 g2 n' m', M_H_name 0 a1 g = some (r, g1) ∧ M_Y_name 1838 a1 g1 = some (r, g2) ∧ RC True True g2 n' m' ∧ INV (k + 1) n' m' ∧ gt g1 1838 = 112 ∧ gn g1 ≤ 1000000 := by
  obtain ⟨r, n', m', h1, h2, h3⟩ := s_name h
  obtain ⟨x, e1, e2, e3⟩ := f_H_name trivial (oj32 a1) (r32 a1) hR _ h1
  obtain ⟨y, d1, d2, d3⟩ := f_Y_name trivial (oj32 a1) (r32 a1) e3 _ h2
  exact ⟨x.1, x.2, y.2, n', m', e1, by rw [d1, e2.1]; exact congrArg some (Prod.ext d2.1 rfl), d3, h3, y_gt e3 trivial, inv_gn e3 h3⟩
theorem b_attribute (a1 : Int32) (hR : RC True True g n m) (h : INV k n m) (hk : k ≤ 64) : ∃ r g1 g2 n' m', M_H_attribute 0 a1 g = some (r, g1) ∧ M_Y_attribute 1838 a1 g1 = some (r, g2) ∧ RC True True g2 n' m' ∧ INV (k + 1) n' m' ∧ gt g1 1838 = 112 ∧ gn g1 ≤ 1000000 := by
  obtain ⟨r, n', m', h1, h2, h3⟩ := s_attribute h
  obtain ⟨x, e1, e2, e3⟩ := f_H_attribute trivial (oj32 a1) (r32 a1) hR _ h1
  obtain ⟨y, d1, d2, d3⟩ := f_Y_attribute trivial (oj32 a1) (r32 a1) e3 _ h2
  exact ⟨x.1, x.2, y.2, n', m', e1, by rw [d1, e2.1]; exact congrArg some (Prod.ext d2.1 rfl), d3, h3, y_gt e3 trivial, inv_gn e3 h3⟩
theorem b_serialise (a1 : Int32) (hR : RC True True g n m) (h : INV k n m) (hk : k ≤ 64) : ∃ r g1 g2 n' m', M_H_serialise 0 a1 g = some (r, g1) ∧ M_Y_serialise 1838 a1 g1 = some (r, g2) ∧ RC True True g2 n' m' ∧ INV (k + 1) n' m' ∧ gt g1 1838 = 112 ∧ gn g1 ≤ 1000000 := by
  obtain ⟨r, n', m', h1, h2, h3⟩ := s_serialise h
  obtain ⟨x, e1, e2, e3⟩ := f_H_serialise trivial (oj32 a1) (r32 a1) hR _ h1
  obtain ⟨y, d1, d2, d3⟩ := f_Y_serialise trivial (oj32 a1) (r32 a1) e3 _ h2
  exact ⟨x.1, x.2, y.2, n', m', e1, by rw [d1, e2.1]; exact congrArg some (Prod.ext d2.1 rfl), d3, h3, y_gt e3 trivial, inv_gn e3 h3⟩
theorem b_fault (a1 : Int32) (a2 : Int32) (hR : RC True True g n m) (h : INV k n m) (hk : k ≤ 64) : ∃ r, M_H_fault 0 a1 a2 g = some r ∧ M_Y_fault 1838 a1 a2 g = some r := by
  obtain ⟨r, h1, h2⟩ := s_fault h
  obtain ⟨x, e1, e2⟩ := f_H_fault trivial (oj32 a1) (r32 a1) (oj32 a2) (r32 a2) hR _ h1
  obtain ⟨y, d1, d2⟩ := f_Y_fault trivial (oj32 a1) (r32 a1) (oj32 a2) (r32 a2) hR _ h2
  exact ⟨x, e1, by rw [d1, e2.1, d2.1]⟩
theorem b_select (hR : RC True True g n m) (h : INV k n m) (hk : k ≤ 64) : ∃ r g1 g2 n' m', M_H_select 0 g = some (r, g1) ∧ M_Y_select 1838 g1 = some (r, g2) ∧ RC True True g2 n' m' ∧ INV (k + 1) n' m' ∧ gt g1 1838 = 112 ∧ gn g1 ≤ 1000000 := by
  obtain ⟨r, n', m', h1, h2, h3⟩ := s_select h
  obtain ⟨x, e1, e2, e3⟩ := f_H_select trivial hR _ h1
  obtain ⟨y, d1, d2, d3⟩ := f_Y_select trivial e3 _ h2
  exact ⟨x.1, x.2, y.2, n', m', e1, by rw [d1, e2.1]; exact congrArg some (Prod.ext d2.1 rfl), d3, h3, y_gt e3 trivial, inv_gn e3 h3⟩
theorem b_found (a1 : Int32) (hR : RC True True g n m) (h : INV k n m) (hk : k ≤ 64) : ∃ r, M_H_found 0 a1 g = some r ∧ M_Y_found 1838 a1 g = some r := by
  obtain ⟨r, h1, h2⟩ := s_found h
  obtain ⟨x, e1, e2⟩ := f_H_found trivial (oj32 a1) (r32 a1) hR _ h1
  obtain ⟨y, d1, d2⟩ := f_Y_found trivial (oj32 a1) (r32 a1) hR _ h2
  exact ⟨x, e1, by rw [d1, e2.1, d2.1]⟩
theorem b_style (a1 : Int32) (a2 : Int32) (hR : RC True True g n m) (h : INV k n m) (hk : k ≤ 64) : ∃ r g1 g2 n' m', M_H_style 0 a1 a2 g = some (r, g1) ∧ M_Y_style 1838 a1 a2 g1 = some (r, g2) ∧ RC True True g2 n' m' ∧ INV (k + 1) n' m' ∧ gt g1 1838 = 112 ∧ gn g1 ≤ 1000000 := by
  obtain ⟨r, n', m', h1, h2, h3⟩ := s_style h
  obtain ⟨x, e1, e2, e3⟩ := f_H_style trivial (oj32 a1) (r32 a1) (oj32 a2) (r32 a2) hR _ h1
  obtain ⟨y, d1, d2, d3⟩ := f_Y_style trivial (oj32 a1) (r32 a1) (oj32 a2) (r32 a2) e3 _ h2
  exact ⟨x.1, x.2, y.2, n', m', e1, by rw [d1, e2.1]; exact congrArg some (Prod.ext d2.1 rfl), d3, h3, y_gt e3 trivial, inv_gn e3 h3⟩
theorem b_screen (a1 : Int32) (hR : RC True True g n m) (h : INV k n m) (hk : k ≤ 64) : ∃ r g1 g2 n' m', M_H_screen 0 a1 g = some (r, g1) ∧ M_Y_screen 1838 a1 g1 = some (r, g2) ∧ RC True True g2 n' m' ∧ INV (k + 1) n' m' ∧ gt g1 1838 = 112 ∧ gn g1 ≤ 1000000 := by
  obtain ⟨r, n', m', h1, h2, h3⟩ := s_screen h
  obtain ⟨x, e1, e2, e3⟩ := f_H_screen trivial (oj32 a1) (r32 a1) hR _ h1
  obtain ⟨y, d1, d2, d3⟩ := f_Y_screen trivial (oj32 a1) (r32 a1) e3 _ h2
  exact ⟨x.1, x.2, y.2, n', m', e1, by rw [d1, e2.1]; exact congrArg some (Prod.ext d2.1 rfl), d3, h3, y_gt e3 trivial, inv_gn e3 h3⟩
theorem b_box (a1 : Int32) (a2 : Int32) (hR : RC True True g n m) (h : INV k n m) (hk : k ≤ 64) : ∃ r g1 g2 n' m', M_H_box 0 a1 a2 g = some (r, g1) ∧ M_Y_box 1838 a1 a2 g1 = some (r, g2) ∧ RC True True g2 n' m' ∧ INV (k + 1) n' m' ∧ gt g1 1838 = 112 ∧ gn g1 ≤ 1000000 := by
  obtain ⟨r, n', m', h1, h2, h3⟩ := s_box h
  obtain ⟨x, e1, e2, e3⟩ := f_H_box trivial (oj32 a1) (r32 a1) (oj32 a2) (r32 a2) hR _ h1
  obtain ⟨y, d1, d2, d3⟩ := f_Y_box trivial (oj32 a1) (r32 a1) (oj32 a2) (r32 a2) e3 _ h2
  exact ⟨x.1, x.2, y.2, n', m', e1, by rw [d1, e2.1]; exact congrArg some (Prod.ext d2.1 rfl), d3, h3, y_gt e3 trivial, inv_gn e3 h3⟩
theorem b_word (a1 : Int32) (a2 : Int32) (hR : RC True True g n m) (h : INV k n m) (hk : k ≤ 64) : ∃ r g1 g2 n' m', M_H_word 0 a1 a2 g = some (r, g1) ∧ M_Y_word 1838 a1 a2 g1 = some (r, g2) ∧ RC True True g2 n' m' ∧ INV (k + 1) n' m' ∧ gt g1 1838 = 112 ∧ gn g1 ≤ 1000000 := by
  obtain ⟨r, n', m', h1, h2, h3⟩ := s_word h
  obtain ⟨x, e1, e2, e3⟩ := f_H_word trivial (oj32 a1) (r32 a1) (oj32 a2) (r32 a2) hR _ h1
  obtain ⟨y, d1, d2, d3⟩ := f_Y_word trivial (oj32 a1) (r32 a1) (oj32 a2) (r32 a2) e3 _ h2
  exact ⟨x.1, x.2, y.2, n', m', e1, by rw [d1, e2.1]; exact congrArg some (Prod.ext d2.1 rfl), d3, h3, y_gt e3 trivial, inv_gn e3 h3⟩
theorem b_point (a1 : Int32) (a2 : Int32) (hR : RC True True g n m) (h : INV k n m) (hk : k ≤ 64) : ∃ r g1 g2 n' m', M_H_point 0 a1 a2 g = some (r, g1) ∧ M_Y_point 1838 a1 a2 g1 = some (r, g2) ∧ RC True True g2 n' m' ∧ INV (k + 1) n' m' ∧ gt g1 1838 = 112 ∧ gn g1 ≤ 1000000 := by
  obtain ⟨r, n', m', h1, h2, h3⟩ := s_point h
  obtain ⟨x, e1, e2, e3⟩ := f_H_point trivial (oj32 a1) (r32 a1) (oj32 a2) (r32 a2) hR _ h1
  obtain ⟨y, d1, d2, d3⟩ := f_Y_point trivial (oj32 a1) (r32 a1) (oj32 a2) (r32 a2) e3 _ h2
  exact ⟨x.1, x.2, y.2, n', m', e1, by rw [d1, e2.1]; exact congrArg some (Prod.ext d2.1 rfl), d3, h3, y_gt e3 trivial, inv_gn e3 h3⟩
theorem b_top (a1 : Int32) (a2 : Int32) (hR : RC True True g n m) (h : INV k n m) (hk : k ≤ 64) : ∃ r g1 g2 n' m', M_H_top 0 a1 a2 g = some (r, g1) ∧ M_Y_top 1838 a1 a2 g1 = some (r, g2) ∧ RC True True g2 n' m' ∧ INV (k + 1) n' m' ∧ gt g1 1838 = 112 ∧ gn g1 ≤ 1000000 := by
  obtain ⟨r, n', m', h1, h2, h3⟩ := s_top h
  obtain ⟨x, e1, e2, e3⟩ := f_H_top trivial (oj32 a1) (r32 a1) (oj32 a2) (r32 a2) hR _ h1
  obtain ⟨y, d1, d2, d3⟩ := f_Y_top trivial (oj32 a1) (r32 a1) (oj32 a2) (r32 a2) e3 _ h2
  exact ⟨x.1, x.2, y.2, n', m', e1, by rw [d1, e2.1]; exact congrArg some (Prod.ext d2.1 rfl), d3, h3, y_gt e3 trivial, inv_gn e3 h3⟩
theorem b_press (a1 : Int32) (a2 : Int32) (hR : RC True True g n m) (h : INV k n m) (hk : k ≤ 64) : ∃ r g1 g2 n' m', M_H_press 0 a1 a2 g = some (r, g1) ∧ M_Y_press 1838 a1 a2 g1 = some (r, g2) ∧ RC True True g2 n' m' ∧ INV (k + 1) n' m' ∧ gt g1 1838 = 112 ∧ gn g1 ≤ 1000000 := by
  obtain ⟨r, n', m', h1, h2, h3⟩ := s_press h hk
  obtain ⟨x, e1, e2, e3⟩ := f_H_press trivial (oj32 a1) (r32 a1) (oj32 a2) (r32 a2) hR _ h1
  obtain ⟨y, d1, d2, d3⟩ := f_Y_press trivial (oj32 a1) (r32 a1) (oj32 a2) (r32 a2) e3 _ h2
  exact ⟨x.1, x.2, y.2, n', m', e1, by rw [d1, e2.1]; exact congrArg some (Prod.ext d2.1 rfl), d3, h3, y_gt e3 trivial, inv_gn e3 h3⟩
theorem b_key (a1 : Int32) (hR : RC True True g n m) (h : INV k n m) (hk : k ≤ 64) : ∃ r g1 g2 n' m', M_H_key 0 a1 g = some (r, g1) ∧ M_Y_key 1838 a1 g1 = some (r, g2) ∧ RC True True g2 n' m' ∧ INV (k + 1) n' m' ∧ gt g1 1838 = 112 ∧ gn g1 ≤ 1000000 := by
  obtain ⟨r, n', m', h1, h2, h3⟩ := s_key h hk
  obtain ⟨x, e1, e2, e3⟩ := f_H_key trivial (oj32 a1) (r32 a1) hR _ h1
  obtain ⟨y, d1, d2, d3⟩ := f_Y_key trivial (oj32 a1) (r32 a1) e3 _ h2
  exact ⟨x.1, x.2, y.2, n', m', e1, by rw [d1, e2.1]; exact congrArg some (Prod.ext d2.1 rfl), d3, h3, y_gt e3 trivial, inv_gn e3 h3⟩
theorem b_script (hR : RC True True g n m) (h : INV k n m) (hk : k ≤ 64) : ∃ r g1 g2 n' m', M_H_script 0 g = some (r, g1) ∧ M_Y_script 1838 g1 = some (r, g2) ∧ RC True True g2 n' m' ∧ INV (k + 1) n' m' ∧ gt g1 1838 = 112 ∧ gn g1 ≤ 1000000 := by
  obtain ⟨r, n', m', h1, h2, h3⟩ := s_script h hk
  obtain ⟨x, e1, e2, e3⟩ := f_H_script trivial hR _ h1
  obtain ⟨y, d1, d2, d3⟩ := f_Y_script trivial e3 _ h2
  exact ⟨x.1, x.2, y.2, n', m', e1, by rw [d1, e2.1]; exact congrArg some (Prod.ext d2.1 rfl), d3, h3, y_gt e3 trivial, inv_gn e3 h3⟩
theorem b_value (a1 : Int32) (hR : RC True True g n m) (h : INV k n m) (hk : k ≤ 64) : ∃ r g1 g2 n' m', M_H_value 0 a1 g = some (r, g1) ∧ M_Y_value 1838 a1 g1 = some (r, g2) ∧ RC True True g2 n' m' ∧ INV (k + 1) n' m' ∧ gt g1 1838 = 112 ∧ gn g1 ≤ 1000000 := by
  obtain ⟨r, n', m', h1, h2, h3⟩ := s_value h
  obtain ⟨x, e1, e2, e3⟩ := f_H_value trivial (oj32 a1) (r32 a1) hR _ h1
  obtain ⟨y, d1, d2, d3⟩ := f_Y_value trivial (oj32 a1) (r32 a1) e3 _ h2
  exact ⟨x.1, x.2, y.2, n', m', e1, by rw [d1, e2.1]; exact congrArg some (Prod.ext d2.1 rfl), d3, h3, y_gt e3 trivial, inv_gn e3 h3⟩
theorem b_checked (a1 : Int32) (hR : RC True True g n m) (h : INV k n m) (hk : k ≤ 64) : ∃ r, M_H_checked 0 a1 g = some r ∧ M_Y_checked 1838 a1 g = some r := by
  obtain ⟨r, h1, h2⟩ := s_checked h
  obtain ⟨x, e1, e2⟩ := f_H_checked trivial (oj32 a1) (r32 a1) hR _ h1
  obtain ⟨y, d1, d2⟩ := f_Y_checked trivial (oj32 a1) (r32 a1) hR _ h2
  exact ⟨x, e1, by rw [d1, e2.1, d2.1]⟩
theorem b_count (a1 : Int32) (hR : RC True True g n m) (h : INV k n m) (hk : k ≤ 64) : ∃ r g1 g2 n' m', M_H_count 0 a1 g = some (r, g1) ∧ M_Y_count 1838 a1 g1 = some (r, g2) ∧ RC True True g2 n' m' ∧ INV (k + 1) n' m' ∧ gt g1 1838 = 112 ∧ gn g1 ≤ 1000000 := by
  obtain ⟨r, n', m', h1, h2, h3⟩ := s_count h
  obtain ⟨x, e1, e2, e3⟩ := f_H_count trivial (oj32 a1) (r32 a1) hR _ h1
  obtain ⟨y, d1, d2, d3⟩ := f_Y_count trivial (oj32 a1) (r32 a1) e3 _ h2
  exact ⟨x.1, x.2, y.2, n', m', e1, by rw [d1, e2.1]; exact congrArg some (Prod.ext d2.1 rfl), d3, h3, y_gt e3 trivial, inv_gn e3 h3⟩
end YZT
