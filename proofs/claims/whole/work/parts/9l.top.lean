/-! the hall as it is told, and the program's reading of it -/
def sBody (B : Int → Int) (n : Int) (G : hv) (z : Int) (s : Int × Int) : HS := if isW B n (lit 0) s = true then sLock B n G z s else if isW B n (lit 5) s = true then sNote B n G z s else if isW B n (lit 7) s = true then sDoor B n G z s else if isW B n (lit 22) s = true then sPlayer B n G z s else sRust B n G z s
def smb (B : Int → Int) (n : Int) (r : HS) : HS := match r with
  | .inl e => .inl e
  | .inr p => if isG B n 59 p.2.2 = true then .inr (p.1, p.2.1, nx B n p.2.2) else .inl (1, tq B n p.2.2)
def sHl (B : Int → Int) (n : Int) : Nat → Int → hv → Int → (Int × Int) → Sum (Int × Int) (hv × Int × Int)
  | 0, _, _, _, _ => .inl (0, 0)
  | f + 1, c, G, z, s => if tkd B n s = 0 then .inr (G, z, c) else if c = 60 then .inl (5, tq B n s) else match smb B n (sBody B n G z s) with
    | .inl e => .inl e
    | .inr p => sHl B n f (c + 1) p.1 p.2.1 p.2.2
section TOP
variable {B : Int → Int} {n : Int} {s : Int × Int} {m m0 : xm} {G : hv} {h : Nat} {z : Int}
/-- what a statement gives -/
def stOk (n : Int) (s : Int × Int) (r : HS) : Prop := ∀ G' z' s', r = .inr (G', z', s') → GI G' z' ∧ z' ≤ s'.1 ∧ okT n s' ∧ s.1 ≤ s'.1
theorem nlb_inr {r : Sum (Int × Int) (List Int)} {f : List Int → HS} {y : hv × Int × (Int × Int)} (e : nlb r f = .inr y) : ∃ L, r = .inr L ∧ f L = .inr y := by
  unfold nlb at e
  cases r with
  | inl x => cases e
  | inr L => exact ⟨L, rfl, e⟩
theorem nub_inr {r : Sum (Int × Int) Int} {f : Int → HS} {y : hv × Int × (Int × Int)} (e : nub r f = .inr y) : ∃ v, r = .inr v ∧ f v = .inr y := by
  unfold nub at e
  cases r with
  | inl x => cases e
  | inr L => exact ⟨L, rfl, e⟩
theorem wdb_inr {w : List Nat} {f : HS} {y : hv × Int × (Int × Int)} (e : wdb B n w s f = .inr y) : isW B n w s = true ∧ f = .inr y := by
  unfold wdb at e
  split at e
  · next c => exact ⟨c, e⟩
  · cases e
theorem sLock_ok (ok : okT n s) (I : GI G z) (hz : z ≤ s.1) : stOk n s (sLock B n G z s) := by
  intro G' z' s' e
  unfold sLock at e
  obtain ⟨L, e1, e⟩ := nlb_inr e
  obtain ⟨-, e⟩ := wdb_inr e
  obtain ⟨w, e2, e⟩ := nub_inr e
  obtain ⟨-, e⟩ := wdb_inr e
  obtain ⟨a, e3, e⟩ := nub_inr e
  obtain ⟨nl, nf, -, -, -⟩ := sNew_L ok e1
  have nf : nL G < 4 := nf
  have wr := sNum_rng e2
  have ar := sNum_rng e3
  have o1 := okT_nx (B := B) ok
  have o2 := okT_nx (B := B) o1
  have o3 := okT_nx (B := B) o2
  have o4 := okT_nx (B := B) o3
  have o5 := okT_nx (B := B) o4
  have o6 := okT_nx (B := B) o5
  have o7 := okT_nx (B := B) o6
  have g1 := nx_ge (B := B) ok
  have g2 := nx_ge (B := B) o1
  have g3 := nx_ge (B := B) o2
  have g4 := nx_ge (B := B) o3
  have g5 := nx_ge (B := B) o4
  have g6 := nx_ge (B := B) o5
  have g7 := nx_ge (B := B) o6
  have g8 := nx_ge (B := B) o7
  split at e
  · obtain ⟨j, e4, e⟩ := nub_inr e
    have jr := sNum_rng e4
    cases e
    exact ⟨GI_lock I nf wr.1 wr.2.1 ar.1 (by omega) (by omega) (by omega), by omega, okT_nx o7, by omega⟩
  · cases e
    exact ⟨GI_lock I nf wr.1 wr.2.1 ar.1 (by omega) (by decide) (by omega), by omega, o6, by omega⟩
theorem sTn_ok {nn : Int} (h0 : 0 ≤ nn) : ∀ (f : Nat) {G : hv} {u : Int} {s : Int × Int}, okT n s → GI G z → nn < nN G → z ≤ s.1 → stOk n s (sTn B n z nn f G u s)
  | 0, _, _, _, _, _, _, _ => by intro G' z' s' e; unfold sTn at e; cases e
  | f + 1, G, u, s, ok, I, hn, hz => by
    intro G' z' s' e
    unfold sTn at e
    obtain ⟨l, e1, e⟩ := nub_inr e
    obtain ⟨v, e2, e⟩ := nub_inr e
    have lk := sOne_k (t := 0) I.1.1.1 e1
    have vr := sNum_rng e2
    have o1 := okT_nx (B := B) ok
    have o2 := okT_nx (B := B) o1
    have g1 := nx_ge (B := B) ok
    have g2 := nx_ge (B := B) o1
    have I2 := GI_turn (v := v) I h0 hn lk.1 lk.2.1 (by omega) vr.2.1
    split at e
    · have := sTn_ok h0 f o2 I2 (by unfold nN aTn at *; rw [st_at (by omega)]; exact hn) (by omega) G' z' s' e
      exact ⟨this.1, this.2.1, this.2.2.1, by omega⟩
    · cases e
      exact ⟨I2, by omega, o2, by omega⟩
theorem sNote_ok (ok : okT n s) (I : GI G z) (hz : z ≤ s.1) : stOk n s (sNote B n G z s) := by
  intro G' z' s' e
  unfold sNote at e
  obtain ⟨L, e1, e⟩ := nlb_inr e
  obtain ⟨-, e⟩ := wdb_inr e
  obtain ⟨nl, nf, -, -, -⟩ := sNew_L ok e1
  have nf : nN G < 6 := nf
  have o1 := okT_nx (B := B) ok
  have o2 := okT_nx (B := B) o1
  have o3 := okT_nx (B := B) o2
  have g1 := nx_ge (B := B) ok
  have g2 := nx_ge (B := B) o1
  have g3 := nx_ge (B := B) o2
  by_cases hl : 0 < nL G
  · have := sTn_ok (B := B) I.1.2.1.1 10 (u := 0) o3 (GI_note (L := L) I nf hl) (by unfold nN; rw [aNm_0, if_pos rfl]; omega) (by omega) G' z' s' e
    exact ⟨this.1, this.2.1, this.2.2.1, by omega⟩
  · exfalso
    unfold sTn at e
    obtain ⟨l, e2, -⟩ := nub_inr e
    have l0 := I.1.1.1
    have e00 : aNm G 1 L 0 0 = 0 := by rw [aNm_0, if_neg (by decide)]; unfold nL at *; omega
    have := sOne_k (t := 0) (by omega) e2
    omega
theorem sPl_ok {pp : Int} (h0 : 0 ≤ pp) : ∀ (f : Nat) {G : hv} {u : Int} {s : Int × Int}, okT n s → GI G z → pp < nP G → 0 ≤ u → u < 2 ^ (nN G).toNat → z ≤ s.1 → stOk n s (sPl B n z pp f G u s)
  | 0, _, _, _, _, _, _, _, _, _ => by intro G' z' s' e; unfold sPl at e; cases e
  | f + 1, G, u, s, ok, I, hn, u0, u1, hz => by
    intro G' z' s' e
    unfold sPl at e
    obtain ⟨l, e1, e⟩ := nub_inr e
    have n6 := I.1.2.1
    have lk := sOne_k (t := 1) n6.1 e1
    have p6 := p2_64 (n := nN G) (by omega)
    have bn := bits_new n6.1 n6.2 u0 u1 lk.1 lk.2.1 lk.2.2
    have o1 := okT_nx (B := B) ok
    have g1 := nx_ge (B := B) ok
    have I2 := GI_plays (v := sb u l) I h0 hn bn.1 (by omega)
    have eN : nN (aPy G pp (sb u l)) = nN G := by unfold nN aPy; rw [st_at (by omega)]
    split at e
    · have := sPl_ok h0 f o1 I2 (by unfold nP aPy at *; rw [st_at (by omega)]; exact hn) bn.1 (by rw [eN]; exact bn.2.1) (by omega) G' z' s' e
      exact ⟨this.1, this.2.1, this.2.2.1, by omega⟩
    · cases e
      exact ⟨I2, by omega, o1, by omega⟩
theorem sPlayer_ok (ok : okT n s) (I : GI G z) (hz : z ≤ s.1) : stOk n s (sPlayer B n G z s) := by
  intro G' z' s' e
  unfold sPlayer at e
  obtain ⟨L, e1, e⟩ := nlb_inr e
  obtain ⟨-, e⟩ := wdb_inr e
  obtain ⟨nl, nf, -, -, -⟩ := sNew_L ok e1
  have nf : nP G < 5 := nf
  have o1 := okT_nx (B := B) ok
  have o2 := okT_nx (B := B) o1
  have o3 := okT_nx (B := B) o2
  have g1 := nx_ge (B := B) ok
  have g2 := nx_ge (B := B) o1
  have g3 := nx_ge (B := B) o2
  have := sPl_ok (B := B) I.1.2.2.2.1.1 10 (u := 0) o3 (GI_player (L := L) I nf) (by unfold nP; rw [aNm_0, if_pos rfl]; omega) (by decide) (Int.pow_pos (by decide)) (by omega) G' z' s' e
  exact ⟨this.1, this.2.1, this.2.2.1, by omega⟩
theorem sDoor_ok (T : TB B n) (ok : okT n s) (I : GI G z) (hz : z ≤ s.1) : stOk n s (sDoor B n G z s) := by
  intro G' z' s' e
  unfold sDoor at e
  obtain ⟨L, e1, e⟩ := nlb_inr e
  obtain ⟨-, e⟩ := wdb_inr e
  obtain ⟨nl, nf, -, -, -⟩ := sNew_L ok e1
  have nf : nD G < 6 := nf
  have o1 := okT_nx (B := B) ok
  have o2 := okT_nx (B := B) o1
  have o3 := okT_nx (B := B) o2
  have g1 := nx_ge (B := B) ok
  have g2 := nx_ge (B := B) o1
  have g3 := nx_ge (B := B) o2
  unfold dbd at e
  cases e2 : sp B n false 100 0 0 0 (nx B n (nx B n (nx B n s))) with
  | inl x => rw [e2] at e; cases e
  | inr x =>
    obtain ⟨s1, C⟩ := x
    rw [e2] at e
    cases e
    have gg := sp_gd 100 0 o3 (by decide) (by decide) (tA (by decide) (by decide)) s1 C e2
    have n16 := T.2.1
    have o4 := gg.1.2.1
    dsimp only
    exact ⟨GI_door I nf (by omega) (gg.2.2.2 [] (by decide)), by omega, gg.1, by omega⟩
theorem sRust_ok (ok : okT n s) (I : GI G z) (hz : z ≤ s.1) : stOk n s (sRust B n G z s) := by
  intro G' z' s' e
  unfold sRust at e
  obtain ⟨-, e⟩ := wdb_inr e
  obtain ⟨v, e1, e⟩ := nub_inr e
  have vr := sNum_rng e1
  have o1 := okT_nx (B := B) ok
  have g1 := nx_ge (B := B) ok
  have g2 := nx_ge (B := B) o1
  cases e
  exact ⟨GI_rust I vr.1 vr.2.1, by omega, okT_nx o1, by omega⟩
theorem sBody_ok (T : TB B n) (ok : okT n s) (I : GI G z) (hz : z ≤ s.1) : stOk n s (sBody B n G z s) := by
  unfold sBody
  split
  · exact sLock_ok ok I hz
  split
  · exact sNote_ok ok I hz
  split
  · exact sDoor_ok T ok I hz
  split
  · exact sPlayer_ok ok I hz
  · exact sRust_ok ok I hz
theorem bnd_bnd {o : xr} {K1 K2 : Int → xm → xr} : bnd (bnd o K1) K2 = bnd o (fun x m => bnd (K1 x m) K2) := by
  cases o with
  | none => rfl
  | some p => rfl
/-- behind a fault the program ends -/
theorem into_F {g : Nat} {c k q : Int} (hc0 : 0 ≤ c) (hc : c ≤ 60) (F : CF m k q) : cR_readInto_13 h (g + 1) c m = some (-1, m) := by
  have e1 : cW_isEnd m = some (1, m) := by unfold cW_isEnd; rw [if_pos F.2.2.2]
  have e147 : cR_readInto_147 h c m = some (-1, m) := by
    unfold cR_readInto_147 cR_readInto_165 cW_faultKind
    rw [e1, bnd_some, if_neg (by decide), bnd_some, w32_ld, if_neg (by rw [F.2.1]; exact F.1)]
  rw [cR_readInto_13, w32_id (by omega) (by omega), e147]
  split
  · rfl
  · rw [e1, bnd_some, if_neg (by decide), e147]
theorem into_loop (p : isH h) : ∀ (f : Nat) {c : Int} {G : hv} {z : Int} {s : Int × Int} {g : Nat} {m : xm}, CS m B n s → HC m h G z → GI G z → z ≤ s.1 → 0 ≤ c → c ≤ 60 → (60 - c).toNat < f → (60 - c).toNat + 2 < g →
    (∀ G' z' c', sHl B n f c G z s = .inr (G', z', c') → ∃ m', cR_readInto_13 h g c m = some (c', m') ∧ (0 ≤ c' ∧ c' ≤ 60) ∧ ld m' 3 4 = 0 ∧ ld m' 3 5 = -1 ∧ HC m' h G' z' ∧ GI G' z' ∧ FHc h m m') ∧ (∀ k q, sHl B n f c G z s = .inl (k, q) → ∃ m', cR_readInto_13 h g c m = some (-1, m') ∧ CF m' k q ∧ FHc h m m')
  | 0, _, _, _, _, _, _, _, _, _, _, _, _, hf, _ => by omega
  | f + 1, c, G, z, s, g, m, S, H, I, hz, hc0, hc, hf, hg => by
    obtain ⟨g, rfl⟩ : ∃ g', g = g' + 1 := ⟨g - 1, by omega⟩
    have ke := S.2.2.2.2.1
    have ok := S.2.1
    have T := CT_TB S.1
    unfold sHl
    have eE : cW_isEnd m = some (if tkd B n s = 0 then 1 else 0, m) := by
      unfold cW_isEnd
      rw [ke]
      split <;> rfl
    by_cases k0 : tkd B n s = 0
    · rw [if_pos k0] at eE ⊢
      have e147 : cR_readInto_147 h c m = some (c, m) := by
        unfold cR_readInto_147 cR_readInto_165 cW_faultKind
        rw [eE, bnd_some, if_neg (by decide), bnd_some, w32_ld, if_pos S.2.2.1]
      refine ⟨fun G' z' c' y => ?_, fun k q y => by cases y⟩
      cases y
      refine ⟨m, ?_, ⟨hc0, hc⟩, S.2.2.1, S.2.2.2.1, H, I, FHc_refl⟩
      rw [cR_readInto_13, w32_id (by omega) (by omega), e147]
      split
      · rfl
      · rw [eE, bnd_some, if_neg (by decide), e147]
    · rw [if_neg k0] at eE ⊢
      by_cases c60 : c = 60
      · obtain ⟨m1, a1, a2, a3⟩ := cW_failHere_S (k := 5) S (by decide) (by decide) (by decide)
        rw [if_pos c60]
        refine ⟨fun G' z' c' y => (by cases y), fun k q y => ?_⟩
        cases y
        refine ⟨m1, ?_, a2, FHc_F3 a3⟩
        rw [cR_readInto_13, w32_id (by omega) (by omega), if_pos (by omega)]
        unfold cR_readInto_147 cR_readInto_165 cW_faultKind
        rw [eE, bnd_some, if_pos (by rfl), a1, bnd_some, bnd_some, w32_ld, if_neg (by rw [a2.2.1]; exact a2.1)]
      · rw [if_neg c60]
        -- one statement
        have body : ∃ X, HRc B n h m (sBody B n G z s) X ∧ cR_readInto_13 h (g + 1) c m = bnd X (fun _ m' => cR_readInto_132 h (fun v2 m => cR_readInto_13 h g v2 m) c m') := by
          rw [cR_readInto_13, w32_id (by omega) (by omega), if_neg (by omega), eE, bnd_some, if_pos (by rfl)]
          unfold sBody
          rw [cW_isWord_S (by decide) S, bnd_some, i01]
          by_cases w0 : isW B n (lit 0) s = true
          · rw [if_pos w0, if_pos w0, if_neg (by decide)]
            exact ⟨_, readLock_S p S I H, rfl⟩
          rw [if_neg w0, if_neg w0, if_pos rfl, cW_isWord_S (by decide) S, bnd_some, i01]
          by_cases w5 : isW B n (lit 5) s = true
          · rw [if_pos w5, if_pos w5, if_neg (by decide)]
            exact ⟨_, readNote_S p S I H, rfl⟩
          rw [if_neg w5, if_neg w5, if_pos rfl, cW_isWord_S (by decide) S, bnd_some, i01]
          by_cases w7 : isW B n (lit 7) s = true
          · rw [if_pos w7, if_pos w7, if_neg (by decide)]
            exact ⟨_, readDoor_S p S I H hz, rfl⟩
          rw [if_neg w7, if_neg w7, if_pos rfl, cW_isWord_S (by decide) S, bnd_some, i01]
          by_cases w22 : isW B n (lit 22) s = true
          · rw [if_pos w22, if_pos w22, if_neg (by decide)]
            exact ⟨_, readPlayer_S p S I H, rfl⟩
          rw [if_neg w22, if_neg w22, if_pos rfl]
          refine ⟨_, readRust_S p S I H, ?_⟩
          rw [bnd_bnd]
          congr 1
          funext x m'
          rw [bnd_bnd]
        obtain ⟨X, hX, eX⟩ := body
        have bo := sBody_ok T ok I hz
        rw [eX]
        cases es : sBody B n G z s with
        | inl x =>
          obtain ⟨k, q⟩ := x
          obtain ⟨m1, a1, a2, a3, a4⟩ := hX.2 k q es
          refine ⟨fun G' z' c' y => (by cases y), fun k q y => ?_⟩
          cases y
          unfold cR_readInto_132
          rw [a1, bnd_some]
          obtain ⟨g, rfl⟩ : ∃ g', g = g' + 1 := ⟨g - 1, by omega⟩
          rcases a2 with F | ⟨s', S1, k4, rfl, rfl⟩
          · rw [cW_needSign_F F, bnd_some]
            dsimp only
            rw [into_F (by omega) (by omega) F]
            exact ⟨m1, rfl, F, a4⟩
          · obtain ⟨m2, b1, b2, b3⟩ := (cW_needSign_S (c := 59) ⟨by decide, by decide⟩ S1).2 (isG_not (by rw [k4]; decide))
            rw [b1, bnd_some]
            dsimp only
            rw [into_F (by omega) (by omega) b2]
            exact ⟨m2, rfl, b2, FHc_trans a4 (FHc_F3 b3)⟩
        | inr x =>
          obtain ⟨G1, z1, s1⟩ := x
          obtain ⟨m1, a1, a2, a3, a4⟩ := hX.1 G1 z1 s1 es
          obtain ⟨I1, hz1, o1, gs⟩ := bo G1 z1 s1 es
          have hS := cW_needSign_S (c := 59) ⟨by decide, by decide⟩ a2
          unfold cR_readInto_132 smb
          rw [a1, bnd_some]
          dsimp only
          by_cases g59 : isG B n 59 s1 = true
          · obtain ⟨m2, b1, b2, b3⟩ := hS.1 g59
            have pr := isH_rng p
            have H2 : HC m2 h G1 z1 := ⟨CH_cg a3.1 (fun a k x => ldq (b3 a k (by rcases x with rfl | ⟨x1, x2⟩ | ⟨rfl, x⟩ <;> omega))), by rw [ldq (b3 (h + 1) 2 (by omega))]; exact a3.2⟩
            have gt := isG_gt o1 g59
            have ih := into_loop p f (c := c + 1) (G := G1) (z := z1) (s := nx B n s1) (g := g) (m := m2) b2 H2 I1 (by omega) (by omega) (by omega) (by omega) (by omega)
            rw [if_pos g59, b1, bnd_some]
            dsimp only
            constructor
            · intro G' z' c' y
              obtain ⟨m3, d1, d2, d3, d4, d5, d6, d7⟩ := ih.1 G' z' c' y
              exact ⟨m3, d1, d2, d3, d4, d5, d6, FHc_trans a4 (FHc_trans (FHc_F3 b3) d7)⟩
            · intro k q y
              obtain ⟨m3, d1, d2, d3⟩ := ih.2 k q y
              exact ⟨m3, d1, d2, FHc_trans a4 (FHc_trans (FHc_F3 b3) d3)⟩
          · obtain ⟨m2, b1, b2, b3⟩ := hS.2 (by simpa using g59)
            obtain ⟨g, rfl⟩ : ∃ g', g = g' + 1 := ⟨g - 1, by omega⟩
            rw [if_neg g59, b1, bnd_some]
            dsimp only
            rw [into_F (by omega) (by omega) b2]
            exact ⟨fun G' z' c' y => (by cases y), fun k q y => by cases y; exact ⟨m2, rfl, b2, FHc_trans a4 (FHc_F3 b3)⟩⟩
end TOP
