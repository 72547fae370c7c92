/-! states as numbers: four digits and the jammed ones -/
abbrev hv : Type := Nat → Int → Int
def nL (G : hv) : Int := G 0 0
def nN (G : hv) : Int := G 0 1
def nD (G : hv) : Int := G 0 2
def nP (G : hv) : Int := G 0 3
def ru (G : hv) : Int := G 0 4
def wx (G : hv) (l : Int) : Int := if 0 ≤ l ∧ l < nL G then G 1 l else 1
def pl (G : hv) (l : Int) : Int := if l = 0 then 1 else if l = 1 then wx G 0 else if l = 2 then wx G 0 * wx G 1 else wx G 0 * wx G 1 * wx G 2
def wy (G : hv) : Int := wx G 0 * wx G 1 * wx G 2 * wx G 3
def wd (G : hv) (s l : Int) : Int := s / pl G l % wx G l
def jm (G : hv) (s : Int) : Int := s / wy G
def mk4 (A B C D a b c d j : Int) : Int := a + A * (b + B * (c + C * (d + D * j)))
theorem mk_div {a A x : Int} (h1 : 0 ≤ a) (h2 : a < A) : (a + A * x) / A = x := by
  rw [Int.add_mul_ediv_left _ _ (by omega), Int.ediv_eq_zero_of_lt h1 h2]
  omega
theorem mk_mod {a A x : Int} (h1 : 0 ≤ a) (h2 : a < A) : (a + A * x) % A = a := by
  rw [Int.add_mul_emod_self_left, Int.emod_eq_of_lt h1 h2]
theorem dv2 (s A B : Int) (h : 0 ≤ A) : s / (A * B) = s / A / B := (Int.ediv_ediv_of_nonneg h).symm
section MK
variable {A B C D a b c d j : Int}
theorem mk_0 (h1 : 0 ≤ a) (h2 : a < A) : mk4 A B C D a b c d j / 1 % A = a := by
  rw [Int.ediv_one]
  exact mk_mod h1 h2
theorem mk_1 (h1 : 0 ≤ a) (h2 : a < A) (h3 : 0 ≤ b) (h4 : b < B) : mk4 A B C D a b c d j / A % B = b := by
  unfold mk4
  rw [mk_div h1 h2, mk_mod h3 h4]
theorem mk_2 (h1 : 0 ≤ a) (h2 : a < A) (h3 : 0 ≤ b) (h4 : b < B) (h5 : 0 ≤ c) (h6 : c < C) : mk4 A B C D a b c d j / (A * B) % C = c := by
  unfold mk4
  rw [dv2 _ _ _ (by omega), mk_div h1 h2, mk_div h3 h4, mk_mod h5 h6]
theorem mk_3 (h1 : 0 ≤ a) (h2 : a < A) (h3 : 0 ≤ b) (h4 : b < B) (h5 : 0 ≤ c) (h6 : c < C) (h7 : 0 ≤ d) (h8 : d < D) : mk4 A B C D a b c d j / (A * B * C) % D = d := by
  unfold mk4
  rw [dv2 _ _ _ (Int.mul_nonneg (by omega) (by omega)), dv2 _ _ _ (by omega), mk_div h1 h2, mk_div h3 h4, mk_div h5 h6, mk_mod h7 h8]
theorem mk_j (h1 : 0 ≤ a) (h2 : a < A) (h3 : 0 ≤ b) (h4 : b < B) (h5 : 0 ≤ c) (h6 : c < C) (h7 : 0 ≤ d) (h8 : d < D) : mk4 A B C D a b c d j / (A * B * C * D) = j := by
  unfold mk4
  rw [dv2 _ _ _ (Int.mul_nonneg (Int.mul_nonneg (by omega) (by omega)) (by omega)), dv2 _ _ _ (Int.mul_nonneg (by omega) (by omega)), dv2 _ _ _ (by omega), mk_div h1 h2, mk_div h3 h4, mk_div h5 h6, mk_div h7 h8]
end MK
theorem mk_of (s A B C D : Int) (hA : 0 < A) (hB : 0 < B) (hC : 0 < C) (hD : 0 < D) : s = mk4 A B C D (s / 1 % A) (s / A % B) (s / (A * B) % C) (s / (A * B * C) % D) (s / (A * B * C * D)) := by
  unfold mk4
  have e1 := Int.emod_add_mul_ediv s A
  have e2 := Int.emod_add_mul_ediv (s / A) B
  have e3 := Int.emod_add_mul_ediv (s / A / B) C
  have e4 := Int.emod_add_mul_ediv (s / A / B / C) D
  rw [Int.ediv_one, dv2 s (A * B * C) D (Int.mul_nonneg (Int.mul_nonneg (by omega) (by omega)) (by omega)), dv2 s (A * B) C (Int.mul_nonneg (by omega) (by omega)), dv2 s A B (by omega), e4, e3, e2, e1]
def wfS (G : hv) : Prop := 0 ≤ nL G ∧ nL G ≤ 4 ∧ ∀ l, 0 ≤ l → l < nL G → 2 ≤ G 1 l ∧ G 1 l ≤ 5
theorem wx_pos {G : hv} (h : wfS G) (l : Int) : 1 ≤ wx G l ∧ wx G l ≤ 5 := by
  unfold wx
  split
  · next hl => have := h.2.2 l hl.1 hl.2; omega
  · omega
theorem wx_in {G : hv} {l : Int} (h1 : 0 ≤ l) (h2 : l < nL G) : wx G l = G 1 l := by
  unfold wx
  rw [if_pos ⟨h1, h2⟩]
theorem wx_out {G : hv} {l : Int} (h : ¬ (0 ≤ l ∧ l < nL G)) : wx G l = 1 := by
  unfold wx
  rw [if_neg h]
theorem mul_rng {x y a b : Int} (h1 : 1 ≤ x) (h2 : x ≤ a) (h3 : 1 ≤ y) (h4 : y ≤ b) : 1 ≤ x * y ∧ x * y ≤ a * b := by
  constructor
  · have := Int.mul_le_mul h1 h3 (by omega) (by omega)
    omega
  · exact Int.mul_le_mul h2 h4 (by omega) (by omega)
theorem pl_pos {G : hv} (h : wfS G) (l : Int) : 1 ≤ pl G l ∧ pl G l ≤ 125 := by
  have h0 := wx_pos h 0
  have h1 := wx_pos h 1
  have h2 := wx_pos h 2
  have h3 := mul_rng h0.1 h0.2 h1.1 h1.2
  have h4 := mul_rng h3.1 h3.2 h2.1 h2.2
  unfold pl
  split
  · omega
  · split
    · omega
    · split <;> omega
theorem wy_pos {G : hv} (h : wfS G) : 1 ≤ wy G ∧ wy G ≤ 625 := by
  have h0 := wx_pos h 0
  have h1 := wx_pos h 1
  have h2 := wx_pos h 2
  have h5 := wx_pos h 3
  have h3 := mul_rng h0.1 h0.2 h1.1 h1.2
  have h4 := mul_rng h3.1 h3.2 h2.1 h2.2
  have h6 := mul_rng h4.1 h4.2 h5.1 h5.2
  unfold wy
  omega
theorem wd_rng {G : hv} (h : wfS G) (s l : Int) : 0 ≤ wd G s l ∧ wd G s l < wx G l := by
  have h0 := wx_pos h l
  unfold wd
  exact ⟨Int.emod_nonneg _ (by omega), Int.emod_lt_of_pos _ (by omega)⟩
/-- the number of a state by its digits -/
def mkS (G : hv) (w : Int → Int) (j : Int) : Int := mk4 (wx G 0) (wx G 1) (wx G 2) (wx G 3) (w 0) (w 1) (w 2) (w 3) j
theorem in4 {l : Int} (h1 : 0 ≤ l) (h2 : l < 4) : l = 0 ∨ l = 1 ∨ l = 2 ∨ l = 3 := by omega
theorem wd_mkS {G : hv} {w : Int → Int} {j l : Int} (hw : ∀ l, 0 ≤ l → l < 4 → 0 ≤ w l ∧ w l < wx G l) (h1 : 0 ≤ l) (h2 : l < 4) : wd G (mkS G w j) l = w l := by
  have g0 := hw 0 (by decide) (by decide)
  have g1 := hw 1 (by decide) (by decide)
  have g2 := hw 2 (by decide) (by decide)
  have g3 := hw 3 (by decide) (by decide)
  unfold wd mkS
  rcases in4 h1 h2 with rfl | rfl | rfl | rfl
  · exact mk_0 g0.1 g0.2
  · exact mk_1 g0.1 g0.2 g1.1 g1.2
  · exact mk_2 g0.1 g0.2 g1.1 g1.2 g2.1 g2.2
  · exact mk_3 g0.1 g0.2 g1.1 g1.2 g2.1 g2.2 g3.1 g3.2
theorem jm_mkS {G : hv} {w : Int → Int} {j : Int} (hw : ∀ l, 0 ≤ l → l < 4 → 0 ≤ w l ∧ w l < wx G l) : jm G (mkS G w j) = j := by
  have g0 := hw 0 (by decide) (by decide)
  have g1 := hw 1 (by decide) (by decide)
  have g2 := hw 2 (by decide) (by decide)
  have g3 := hw 3 (by decide) (by decide)
  exact mk_j g0.1 g0.2 g1.1 g1.2 g2.1 g2.2 g3.1 g3.2
theorem mkS_of {G : hv} (h : wfS G) (s : Int) : s = mkS G (wd G s) (jm G s) := by
  have h0 := wx_pos h 0
  have h1 := wx_pos h 1
  have h2 := wx_pos h 2
  have h3 := wx_pos h 3
  exact mk_of s (wx G 0) (wx G 1) (wx G 2) (wx G 3) (by omega) (by omega) (by omega) (by omega)
theorem mkS_cg {G : hv} {w v : Int → Int} {j : Int} (h : ∀ l, 0 ≤ l → l < 4 → w l = v l) : mkS G w j = mkS G v j := by
  unfold mkS
  rw [h 0 (by decide) (by decide), h 1 (by decide) (by decide), h 2 (by decide) (by decide), h 3 (by decide) (by decide)]
/-- two states are one if their digits are -/
theorem st_ext {G : hv} (h : wfS G) {s t : Int} (h1 : ∀ l, 0 ≤ l → l < nL G → wd G s l = wd G t l) (h2 : jm G s = jm G t) : s = t := by
  rw [mkS_of h s, mkS_of h t, h2]
  refine mkS_cg (fun l g1 g2 => ?_)
  by_cases hl : l < nL G
  · exact h1 l g1 hl
  · have e := wx_out (G := G) (l := l) (fun z => hl z.2)
    have r1 := wd_rng h s l
    have r2 := wd_rng h t l
    omega
/-- a lock's ward becomes v -/
def ud (G : hv) (s l v : Int) : Int := s + (v - wd G s l) * pl G l
def sj (G : hv) (s l : Int) : Int := if bt (jm G s) l = 1 then s else s + wy G * 2 ^ l.toNat
def cj (G : hv) (s l : Int) : Int := if bt (jm G s) l = 1 then s - wy G * 2 ^ l.toNat else s
theorem ud_mk {G : hv} (h : wfS G) {s l v : Int} (h1 : 0 ≤ l) (h2 : l < 4) : ud G s l v = mkS G (fun k => if k = l then v else wd G s k) (jm G s) := by
  have e := mkS_of h s
  unfold ud
  generalize hw : wd G s = w at e ⊢
  generalize hj : jm G s = j at e ⊢
  rw [e]
  unfold mkS mk4 pl
  generalize wx G 0 = A
  generalize wx G 1 = B
  generalize wx G 2 = C
  generalize wx G 3 = D
  rcases in4 h1 h2 with rfl | rfl | rfl | rfl
  · simp only [if_true, show ¬ (1 : Int) = 0 by decide, show ¬ (2 : Int) = 0 by decide, show ¬ (3 : Int) = 0 by decide, if_false]
    grind
  · simp only [if_true, show ¬ (1 : Int) = 0 by decide, show ¬ (0 : Int) = 1 by decide, show ¬ (2 : Int) = 1 by decide, show ¬ (3 : Int) = 1 by decide, if_false]
    grind
  · simp only [if_true, show ¬ (2 : Int) = 0 by decide, show ¬ (0 : Int) = 2 by decide, show ¬ (2 : Int) = 1 by decide, show ¬ (1 : Int) = 2 by decide, show ¬ (3 : Int) = 2 by decide, if_false]
    grind
  · simp only [if_true, show ¬ (3 : Int) = 0 by decide, show ¬ (3 : Int) = 1 by decide, show ¬ (3 : Int) = 2 by decide, show ¬ (0 : Int) = 3 by decide, show ¬ (1 : Int) = 3 by decide, show ¬ (2 : Int) = 3 by decide, if_false]
    grind
theorem ud_ok {G : hv} (h : wfS G) {s l v : Int} (h1 : 0 ≤ l) (h2 : l < 4) (h3 : 0 ≤ v) (h4 : v < wx G l) : (∀ k, 0 ≤ k → k < 4 → wd G (ud G s l v) k = if k = l then v else wd G s k) ∧ jm G (ud G s l v) = jm G s := by
  rw [ud_mk h h1 h2]
  have hw : ∀ k, 0 ≤ k → k < 4 → 0 ≤ (if k = l then v else wd G s k) ∧ (if k = l then v else wd G s k) < wx G k := by
    intro k g1 g2
    split
    · next e => subst e; exact ⟨h3, h4⟩
    · exact wd_rng h s k
  exact ⟨fun k g1 g2 => wd_mkS hw g1 g2, jm_mkS hw⟩
theorem aj_ok {G : hv} (h : wfS G) {s x : Int} : (∀ k, 0 ≤ k → k < 4 → wd G (s + wy G * x) k = wd G s k) ∧ jm G (s + wy G * x) = jm G s + x := by
  have e : s + wy G * x = mkS G (wd G s) (jm G s + x) := by
    have e := mkS_of h s
    generalize hw : wd G s = w at e ⊢
    generalize hj : jm G s = j at e ⊢
    rw [e]
    unfold mkS mk4 wy
    generalize wx G 0 = A
    generalize wx G 1 = B
    generalize wx G 2 = C
    generalize wx G 3 = D
    grind
  rw [e]
  have hw : ∀ k, 0 ≤ k → k < 4 → 0 ≤ wd G s k ∧ wd G s k < wx G k := fun k _ _ => wd_rng h s k
  exact ⟨fun k g1 g2 => wd_mkS hw g1 g2, jm_mkS hw⟩
theorem sj_ok {G : hv} (h : wfS G) {s l : Int} : (∀ k, 0 ≤ k → k < 4 → wd G (sj G s l) k = wd G s k) ∧ jm G (sj G s l) = sb (jm G s) l := by
  unfold sj sb
  split
  · exact ⟨fun _ _ _ => rfl, rfl⟩
  · exact aj_ok h
theorem cj_ok {G : hv} (h : wfS G) {s l : Int} : (∀ k, 0 ≤ k → k < 4 → wd G (cj G s l) k = wd G s k) ∧ jm G (cj G s l) = cb (jm G s) l := by
  unfold cj cb
  split
  · have := aj_ok h (s := s) (x := - 2 ^ l.toNat)
    rw [Int.mul_neg] at this
    exact this
  · exact ⟨fun _ _ _ => rfl, rfl⟩
/-- a state -/
def vs (G : hv) (s : Int) : Prop := 0 ≤ jm G s ∧ jm G s < 2 ^ (nL G).toNat
theorem p2_le {n : Int} (h1 : 0 ≤ n) (h2 : n ≤ 4) : (2 : Int) ^ n.toNat ≤ 16 ∧ (1 : Int) ≤ 2 ^ n.toNat := by
  obtain ⟨k, hk, rfl⟩ := nat2 (n := 5) h1 (by omega)
  have : ∀ k : Nat, k < 5 → (2 : Int) ^ (k : Int).toNat ≤ 16 ∧ (1 : Int) ≤ 2 ^ (k : Int).toNat := by decide
  exact this k hk
theorem vs_j {G : hv} (h : wfS G) {s : Int} (hv : vs G s) : 0 ≤ jm G s ∧ jm G s < 16 := by
  have := p2_le h.1 h.2.1
  have := hv.1
  have := hv.2
  omega
theorem vs_s {G : hv} (h : wfS G) {s : Int} (hv : vs G s) : 0 ≤ s ∧ s < 10000 := by
  have hj := vs_j h hv
  have hw := wy_pos h
  have e := Int.emod_add_mul_ediv s (wy G)
  have r1 := Int.emod_nonneg s (show wy G ≠ 0 by omega)
  have r2 := Int.emod_lt_of_pos s (show 0 < wy G by omega)
  have e2 : s / wy G = jm G s := rfl
  rw [e2] at e
  have m1 : 0 ≤ wy G * jm G s := Int.mul_nonneg (by omega) hj.1
  have m2 : wy G * jm G s ≤ 625 * 15 := Int.mul_le_mul (by omega) (by omega) hj.1 (by omega)
  omega
theorem sb_lt0 : ∀ n : Nat, n < 5 → ∀ j : Nat, (j : Int) < 2 ^ n → ∀ l : Nat, l < n → 0 ≤ sb j l ∧ sb j l < 2 ^ n ∧ 0 ≤ cb j l ∧ cb j l < 2 ^ n := by
  intro n hn j hj l hl
  have hj2 : j < 2 ^ n := by exact_mod_cast hj
  have : ∀ n : Nat, n < 5 → ∀ j : Nat, j < 2 ^ n → ∀ l : Nat, l < n → 0 ≤ sb j l ∧ sb j l < 2 ^ n ∧ 0 ≤ cb j l ∧ cb j l < 2 ^ n := by decide +kernel
  exact this n hn j hj2 l hl
theorem vs_ud {G : hv} (h : wfS G) {s l v : Int} (hv : vs G s) (h1 : 0 ≤ l) (h2 : l < 4) (h3 : 0 ≤ v) (h4 : v < wx G l) : vs G (ud G s l v) := by
  unfold vs
  rw [(ud_ok h h1 h2 h3 h4).2]
  exact hv
theorem sb_lt {G : hv} (h : wfS G) {j l : Int} (h1 : 0 ≤ j) (h2 : j < 2 ^ (nL G).toNat) (h3 : 0 ≤ l) (h4 : l < nL G) : 0 ≤ sb j l ∧ sb j l < 2 ^ (nL G).toNat ∧ 0 ≤ cb j l ∧ cb j l < 2 ^ (nL G).toNat := by
  obtain ⟨a, rfl⟩ := Int.eq_ofNat_of_zero_le h1
  obtain ⟨b, rfl⟩ := Int.eq_ofNat_of_zero_le h3
  exact sb_lt0 (nL G).toNat (by have := h.1; have := h.2.1; omega) a h2 b (by omega)
theorem vs_sj {G : hv} (h : wfS G) {s l : Int} (hv : vs G s) (h1 : 0 ≤ l) (h2 : l < nL G) : vs G (sj G s l) := by
  unfold vs
  rw [(sj_ok h).2]
  have := sb_lt h hv.1 hv.2 h1 h2
  omega
theorem vs_cj {G : hv} (h : wfS G) {s l : Int} (hv : vs G s) (h1 : 0 ≤ l) (h2 : l < nL G) : vs G (cj G s l) := by
  unfold vs
  rw [(cj_ok h).2]
  have := sb_lt h hv.1 hv.2 h1 h2
  omega
/-- a note's turn of one lock; the state behind a note -/
def tT (G : hv) (n l : Int) : Int := G 4 (4 * n + l)
def tn (G : hv) (n l s : Int) : Int := if l < nL G ∧ 0 < tT G n l then (if (wd G s l + tT G n l) % wx G l = G 3 l then sj G (ud G s l ((wd G s l + tT G n l) % wx G l)) l else ud G s l ((wd G s l + tT G n l) % wx G l)) else s
def afl (G : hv) (n : Int) : Nat → Int → Int
  | 0, s => s
  | k + 1, s => tn G n (k : Int) (afl G n k s)
def af (G : hv) (n s : Int) : Int := afl G n (nL G).toNat s
theorem tn_wd {G : hv} (h : wfS G) {n l s k : Int} (h1 : 0 ≤ l) (h2 : l < 4) (hk : 0 ≤ k) (hk2 : k < 4) (hne : k ≠ l) : wd G (tn G n l s) k = wd G s k := by
  have hx := wx_pos h l
  have r1 := Int.emod_nonneg (wd G s l + tT G n l) (show wx G l ≠ 0 by omega)
  have r2 := Int.emod_lt_of_pos (wd G s l + tT G n l) (show 0 < wx G l by omega)
  unfold tn
  split
  · split
    · rw [(sj_ok h).1 k hk hk2, (ud_ok h h1 h2 r1 r2).1 k hk hk2, if_neg hne]
    · rw [(ud_ok h h1 h2 r1 r2).1 k hk hk2, if_neg hne]
  · rfl
theorem vs_tn {G : hv} (h : wfS G) {n l s : Int} (hv : vs G s) (h1 : 0 ≤ l) : vs G (tn G n l s) := by
  have hx := wx_pos h l
  have r1 := Int.emod_nonneg (wd G s l + tT G n l) (show wx G l ≠ 0 by omega)
  have r2 := Int.emod_lt_of_pos (wd G s l + tT G n l) (show 0 < wx G l by omega)
  unfold tn
  split
  · next hl =>
    have := h.2.1
    have hu := vs_ud h hv h1 (by omega) r1 r2
    split
    · exact vs_sj h hu h1 hl.1
    · exact hu
  · exact hv
theorem vs_afl {G : hv} (h : wfS G) {n s : Int} (hv : vs G s) : ∀ k : Nat, vs G (afl G n k s)
  | 0 => hv
  | k + 1 => vs_tn h (vs_afl h hv k) (by omega)
theorem vs_af {G : hv} (h : wfS G) {n s : Int} (hv : vs G s) : vs G (af G n s) := vs_afl h hv _
theorem afl_wd {G : hv} (h : wfS G) {n s : Int} : ∀ (k : Nat) (l : Int), k ≤ 4 → (k : Int) ≤ l → l < 4 → wd G (afl G n k s) l = wd G s l
  | 0, _, _, _, _ => rfl
  | k + 1, l, hk, h1, h2 => by
    show wd G (tn G n k (afl G n k s)) l = _
    rw [tn_wd h (by omega) (by omega) (by omega) h2 (by omega), afl_wd h k l (by omega) (by omega) h2]
