/-! what can be reached: at most 1296 states -/
def iRs (G : hv) (s0 s : Int) : Prop := ∀ l, 0 ≤ l → l < nL G → (bt (jm G s0) l = 1 → wd G s l = wd G s0 l ∧ bt (jm G s) l = 1) ∧ (bt (jm G s0) l = 0 → bt (jm G s) l = 1 → wd G s l = G 3 l)
theorem inR_refl {G : hv} {s : Int} : iRs G s s := fun l _ _ => ⟨fun h => ⟨rfl, h⟩, fun h1 h2 => by omega⟩
theorem tn_bt {G : hv} (w : wfS G) {n l s : Int} (hv : vs G s) (h1 : 0 ≤ l) (h2 : l < nL G) {k : Int} (hk : 0 ≤ k) (hk4 : k < 4) : (k ≠ l → bt (jm G (tn G n l s)) k = bt (jm G s) k) ∧ (0 < tT G n l → bt (jm G s) l = 0 → bt (jm G (tn G n l s)) l = 1 → wd G (tn G n l s) l = G 3 l) ∧ (¬ 0 < tT G n l → tn G n l s = s) := by
  have hx := wx_pos w l
  have g := w.2.1
  have r1 := Int.emod_nonneg (wd G s l + tT G n l) (show wx G l ≠ 0 by omega)
  have r2 := Int.emod_lt_of_pos (wd G s l + tT G n l) (show 0 < wx G l by omega)
  have u := ud_ok w (s := s) (l := l) h1 (by omega) r1 r2
  have j := vs_j w hv
  unfold tn
  by_cases c : 0 < tT G n l
  · rw [if_pos ⟨h2, c⟩]
    by_cases e : (wd G s l + tT G n l) % wx G l = G 3 l
    · rw [if_pos e, (sj_ok w).2, u.2]
      refine ⟨fun z => ?_, fun _ _ _ => ?_, fun z => absurd c z⟩
      · rw [sb_bt j.1 (by omega) h1 (by omega) hk (by omega), if_neg z]
      · rw [(sj_ok w).1 l h1 (by omega), u.1 l h1 (by omega), if_pos rfl, e]
    · rw [if_neg e, u.2]
      exact ⟨fun _ => rfl, fun _ z1 z2 => by omega, fun z => absurd c z⟩
  · rw [if_neg (fun z => c z.2)]
    exact ⟨fun _ => rfl, fun z => absurd z c, fun _ => rfl⟩
theorem inR_afl {G : hv} (w : wfG G) {s0 s n : Int} (hv : vs G s) (h : iRs G s0 s) (hc : ∀ l, 0 ≤ l → l < 4 → 0 < tT G n l → bt (jm G s) l = 0) : ∀ k : Nat, (k : Int) ≤ nL G → iRs G s0 (afl G n k s) ∧ ∀ l, (k : Int) ≤ l → l < 4 → bt (jm G (afl G n k s)) l = bt (jm G s) l
  | 0, _ => ⟨h, fun _ _ _ => rfl⟩
  | k + 1, hk => by
    have gL := w.1.2.1
    obtain ⟨q1, q2⟩ := inR_afl w hv h hc k (by omega)
    have va := vs_afl w.1 (n := n) hv k
    have ek : afl G n (k + 1) s = tn G n (k : Int) (afl G n k s) := rfl
    rw [ek]
    refine ⟨fun l z1 z2 => ?_, fun l z1 z2 => by rw [(tn_bt w.1 va (n := n) (l := (k : Int)) (by omega) (by omega) (k := l) (by omega) z2).1 (by omega)]; exact q2 l (by omega) z2⟩
    have t := tn_bt w.1 va (n := n) (l := (k : Int)) (by omega) (by omega) (k := l) z1 (by omega)
    have ql := q1 l z1 z2
    by_cases e : l = (k : Int)
    · subst e
      by_cases c : 0 < tT G n (k : Int)
      · have b0 : bt (jm G (afl G n k s)) (k : Int) = 0 := by rw [q2 _ (Int.le_refl _) (by omega)]; exact hc _ z1 (by omega) c
        exact ⟨fun y => by have := (ql.1 y).2; omega, fun _ y2 => t.2.1 c b0 y2⟩
      · rw [t.2.2 c]
        exact ql
    · rw [t.1 e, tn_wd w.1 (by omega) (by omega) z1 (by omega) e]
      exact ql
theorem inR_ag {G : hv} (w : wfG G) {s0 s n : Int} (hv : vs G s) (h : iRs G s0 s) (hc : cp G s n) : iRs G s0 (ag G n s) := by
  unfold ag
  split
  · exact h
  · next h6 =>
    rcases hc with z | z
    · exact absurd z h6
    · have g := w.1.1
      exact (inR_afl w hv h ((cp_iff w hv).mp z.2.2) (nL G).toNat (by omega)).1
def el6 (G : hv) (s l : Int) : Int := if l < nL G then (if bt (jm G s) l = 1 then 5 else wd G s l) else 0
def phi (G : hv) (s : Int) : Int := el6 G s 0 + 6 * el6 G s 1 + 36 * el6 G s 2 + 216 * el6 G s 3
theorem el6_rng {G : hv} (w : wfS G) (s l : Int) : 0 ≤ el6 G s l ∧ el6 G s l ≤ 5 := by
  have h1 := wd_rng w s l
  have h2 := wx_pos w l
  unfold el6
  split
  · split <;> omega
  · omega
theorem phi_rng {G : hv} (w : wfS G) (s : Int) : 0 ≤ phi G s ∧ phi G s < 1296 := by
  have a := el6_rng w s 0
  have b := el6_rng w s 1
  have c := el6_rng w s 2
  have d := el6_rng w s 3
  unfold phi
  omega
theorem phi_inj {G : hv} (w : wfS G) {s0 s t : Int} (vs1 : vs G s) (vt : vs G t) (hs : iRs G s0 s) (ht : iRs G s0 t) (e : phi G s = phi G t) : s = t := by
  have gL := w.2.1
  have a := el6_rng w s 0
  have b := el6_rng w s 1
  have c := el6_rng w s 2
  have d := el6_rng w s 3
  have a' := el6_rng w t 0
  have b' := el6_rng w t 1
  have c' := el6_rng w t 2
  have d' := el6_rng w t 3
  unfold phi at e
  have al : ∀ l, 0 ≤ l → l < 4 → el6 G s l = el6 G t l := fun l z1 z2 => by
    have : l = 0 ∨ l = 1 ∨ l = 2 ∨ l = 3 := by omega
    rcases this with rfl | rfl | rfl | rfl <;> omega
  have key : ∀ l, 0 ≤ l → l < nL G → wd G s l = wd G t l ∧ bt (jm G s) l = bt (jm G t) l := fun l z1 z2 => by
    have q := al l z1 (by omega)
    have r1 := wd_rng w s l
    have r2 := wd_rng w t l
    have x := wx_pos w l
    have b1 := bt_01 (jm G s) l
    have b2 := bt_01 (jm G t) l
    have b0 := bt_01 (jm G s0) l
    have hs' := hs l z1 z2
    have ht' := ht l z1 z2
    unfold el6 at q
    rw [if_pos z2, if_pos z2] at q
    by_cases c1 : bt (jm G s) l = 1
    · rw [if_pos c1] at q
      by_cases c2 : bt (jm G t) l = 1
      · refine ⟨?_, by omega⟩
        rcases b0 with z | z
        · rw [hs'.2 z c1, ht'.2 z c2]
        · rw [(hs'.1 z).1, (ht'.1 z).1]
      · rw [if_neg c2] at q
        omega
    · rw [if_neg c1] at q
      by_cases c2 : bt (jm G t) l = 1
      · rw [if_pos c2] at q
        omega
      · rw [if_neg c2] at q
        exact ⟨q, by omega⟩
  refine st_ext w (fun l z1 z2 => (key l z1 z2).1) ?_
  have j1 := vs_j w vs1
  have j2 := vs_j w vt
  have g := w.1
  refine bt_ext j1.1 (by omega) j2.1 (by omega) (fun k z1 z2 => ?_)
  by_cases z : k < nL G
  · exact (key k z1 z).2
  · rw [bt_hi vs1.1 vs1.2 (by omega), bt_hi vt.1 vt.2 (by omega)]
theorem pig : ∀ (n : Nat) (L : List Int), L.Nodup → (∀ x ∈ L, 0 ≤ x ∧ x < (n : Int)) → L.length ≤ n
  | 0, L, _, h => by
    cases L with
    | nil => exact Nat.le_refl _
    | cons a r =>
      have := h a (List.mem_cons_self ..)
      omega
  | n + 1, L, hn, h => by
    by_cases c : (n : Int) ∈ L
    · have q := pig n (L.erase (n : Int)) (hn.erase _) (fun x hx => by
        have := (List.Nodup.mem_erase_iff hn).mp hx
        have z := h x this.2
        have := this.1
        omega)
      have := List.length_erase_of_mem c
      omega
    · have q := pig n L hn (fun x hx => by
        have z := h x hx
        have : x ≠ (n : Int) := fun e => c (by rw [← e]; exact hx)
        omega)
      omega
/-- the queue is as a search makes it -/
def okQ (G : hv) (s0 : Int) (q : List qe) : Prop := (0 < q.length ∧ gd q 0 = (s0, -1, -1, 0)) ∧ (∀ i : Nat, i < q.length → vs G (gd q i).1 ∧ iRs G s0 (gd q i).1 ∧ (0 ≤ (gd q i).2.2.2 ∧ (gd q i).2.2.2 ≤ (i : Int)) ∧ (0 < i → 0 ≤ (gd q i).2.1 ∧ (gd q i).2.1 < (i : Int) ∧ 0 ≤ (gd q i).2.2.1 ∧ (gd q i).2.2.1 < nN G ∧ (gd q i).2.2.2 = (gd q (gd q i).2.1.toNat).2.2.2 + 1)) ∧ (fsq q).Nodup
theorem okQ_0 {G : hv} {s : Int} (hv : vs G s) : okQ G s [(s, -1, -1, 0)] := by
  refine ⟨⟨Nat.zero_lt_one, rfl⟩, fun i hi => ?_, ?_⟩
  · have : i = 0 := by
      have : i < 1 := hi
      omega
    subst this
    exact ⟨hv, inR_refl, ⟨Int.le_refl _, Int.le_refl _⟩, fun z => by omega⟩
  · exact List.nodup_cons.mpr ⟨List.not_mem_nil, List.nodup_nil⟩
theorem okQ_len {G : hv} (w : wfG G) {s0 : Int} {q : List qe} (H : okQ G s0 q) : q.length ≤ 1296 := by
  have e : ((fsq q).map (phi G)).length = q.length := by
    unfold fsq
    rw [List.length_map, List.length_map]
  rw [← e]
  refine pig 1296 _ ?_ (fun x hx => ?_)
  · refine List.pairwise_map.mpr (List.Pairwise.imp_of_mem (fun {a b} ha hb hne he => ?_) H.2.2)
    obtain ⟨i, i1, i2⟩ := fsq_ex ha
    obtain ⟨j, j1, j2⟩ := fsq_ex hb
    have qi := H.2.1 i i1
    have qj := H.2.1 j j1
    rw [i2] at qi
    rw [j2] at qj
    exact hne (phi_inj w.1 qi.1 qj.1 qi.2.1 qj.2.1 he)
  · obtain ⟨s, _, rfl⟩ := List.mem_map.mp hx
    exact phi_rng w.1 s
theorem okQ_rch {G : hv} {s0 s y : Int} {i : Nat} {q : List qe} (H : okQ G s0 q) (hi : i < q.length) (hv : vs G s) (hr : iRs G s0 s) (hy0 : 0 ≤ y) (hy1 : y < nN G) : okQ G s0 (rch s (i : Int) y q) := by
  unfold rch
  split
  · exact H
  · next hn =>
    obtain ⟨⟨a1, a2⟩, b, c⟩ := H
    have bi := b i hi
    refine ⟨⟨by rw [List.length_append]; omega, by rw [gd_lt a1]; exact a2⟩, fun j hj => ?_, ?_⟩
    · rw [List.length_append] at hj
      have hj2 : j < q.length + 1 := hj
      by_cases e : j = q.length
      · subst e
        rw [gd_eq]
        dsimp only
        have bd := bi.2.2.1
        rw [Int.toNat_natCast, gd_lt hi]
        exact ⟨hv, hr, ⟨by omega, by omega⟩, fun _ => ⟨by omega, by omega, hy0, hy1, rfl⟩⟩
      · have jl : j < q.length := by omega
        rw [gd_lt jl]
        have bj := b j jl
        refine ⟨bj.1, bj.2.1, bj.2.2.1, fun z => ?_⟩
        obtain ⟨p1, p2, p3, p4, p5⟩ := bj.2.2.2 z
        refine ⟨p1, p2, p3, p4, ?_⟩
        rw [gd_lt (by omega)]
        exact p5
    · rw [fsq_app]
      refine List.nodup_append.mpr ⟨c, List.nodup_cons.mpr ⟨List.not_mem_nil, List.nodup_nil⟩, fun a ha b hb => ?_⟩
      rw [List.mem_singleton] at hb
      intro e
      rw [e, hb] at ha
      exact hn ha
