/-- MatrixSheets: private static void need(boolean) -/
def Sp_M_need (a0 : Int32) (σ : S0) (post : S0 → Prop) (px : Nat → S0 → Prop) : Prop :=
  ((¬ a0 = 0 →
    post σ) ∧
  (a0 = 0 →
    px 0 σ))
/-- MatrixSheets: private static void needContext(int) -/
def Sp_M_needContext (a0 : Int32) (σ : S0) (post : S0 → Prop) (px : Nat → S0 → Prop) : Prop :=
  ∀ G15 : Int32 → S0 → Prop,
  (∀ (t0 : Int32) (σ : S0),
    Sp_M_need t0 σ (fun (σ1 : S0) =>
    post σ1) px →
    G15 t0 σ) →
  ((a0 < 0 →
    G15 0 σ) ∧
  (¬ a0 < 0 →
    ((16 ≤ a0 →
      G15 0 σ) ∧
    (¬ 16 ≤ a0 →
      G15 1 σ))))
/-- MatrixSheets: private static boolean has(int, int) -/
def Sp_M_has (a0 a1 : Int32) (σ : S0) (post : Int32 → S0 → Prop) : Prop :=
  ((((a0 >>> (a1 &&& 31)) &&& 1) = 0 →
    post 0 σ) ∧
  (¬ ((a0 >>> (a1 &&& 31)) &&& 1) = 0 →
    post 1 σ))
/-- MatrixSheets$Dig: int leadersOf(int) -/
def Sp_D_leadersOf (a1 : Int32) (σ : S0) (post : Int32 → S0 → Prop) : Prop :=
  ∀ G4 : Int32 → Int32 → Int32 → S0 → Prop,
  (∀ (x1 x2 x3 : Int32) (σ : S0),
    ((16 ≤ x3 →
      post x2 σ) ∧
    (¬ 16 ≤ x3 →
      Sp_M_has x1 x3 σ (fun (r2 : Int32) (σ1 : S0) =>
      ((r2 = 0 →
        G4 x1 x2 (x3 + 1) σ1) ∧
      (¬ r2 = 0 →
        vp_in x3 16 ∧
        (∀ v3 : Int32, v3 = (x2 ||| (1 <<< ((σ1 4 x3.toNatClampNeg) &&& 31))) →
        G4 x1 v3 (x3 + 1) σ1)))))) →
    G4 x1 x2 x3 σ) →
  G4 a1 0 0 σ
/-- MatrixSheets: private static void goOn(int[], int) -/
def Sp_M_goOn_9 (a1 : Int32) (σ : S0) (post : S0 → Prop) : Prop :=
  ∀ G2 : Int32 → Int32 → S0 → Prop,
  ∀ G10 : Int32 → Int32 → Int32 → S0 → Prop,
  (∀ (x1 x2 : Int32) (σ : S0),
    ((16 ≤ x2 →
      post σ) ∧
    (¬ 16 ≤ x2 →
      G10 x1 x2 0 σ)) →
    G2 x1 x2 σ) →
  (∀ (x1 x2 x3 : Int32) (σ : S0),
    ((16 ≤ x3 →
      G2 x1 (x2 + 1) σ) ∧
    (¬ 16 ≤ x3 →
      Sp_M_has x1 x2 σ (fun (r2 : Int32) (σ1 : S0) =>
      ((r2 = 0 →
        G10 x1 x2 (x3 + 1) σ1) ∧
      (¬ r2 = 0 →
        vp_in x3 16 ∧
        Sp_M_has (σ1 9 x3.toNatClampNeg) x2 σ1 (fun (r4 : Int32) (σ3 : S0) =>
        ((r4 = 0 →
          G10 x1 x2 (x3 + 1) σ3) ∧
        (¬ r4 = 0 →
          vp_in x3 16 ∧
          vp_in x2 16 ∧
          vp_in x3 16 ∧
          (∀ σ5 : S0, σ5 = st σ3 9 x3.toNatClampNeg ((σ3 9 x3.toNatClampNeg) ||| (σ3 9 x2.toNatClampNeg)) →
          G10 x1 x2 (x3 + 1) σ5))))))))) →
    G10 x1 x2 x3 σ) →
  G2 a1 0 σ
/-- MatrixSheets$Dig: private void lowerGroupPhase(int, int) -/
def Sp_D_lowerGroupPhase (a1 a2 : Int32) (σ : S0) (post : S0 → Prop) : Prop :=
  ∀ G25 : Int32 → Int32 → S0 → Prop,
  (∀ (x1 x2 : Int32) (σ : S0),
    vp_in x1 16 ∧
    (∀ σ1 : S0, σ1 = st σ 5 x1.toNatClampNeg x2 →
    post σ1) →
    G25 x1 x2 σ) →
  ((a2 = (-1) →
    post σ) ∧
  (¬ a2 = (-1) →
    vp_in a1 16 ∧
    (((σ 5 a1.toNatClampNeg) = (-1) →
      G25 a1 a2 σ) ∧
    (¬ (σ 5 a1.toNatClampNeg) = (-1) →
      vp_in a1 16 ∧
      (((σ 5 a1.toNatClampNeg) ≤ a2 →
        post σ) ∧
      (¬ (σ 5 a1.toNatClampNeg) ≤ a2 →
        G25 a1 a2 σ))))))
/-- MatrixSheets$Dig: private void settle() -/
def Sp_D_settle (σ : S0) (post : S0 → Prop) : Prop :=
  ∀ G2 : Int32 → S0 → Prop,
  ∀ G30 : Int32 → S0 → Prop,
  (∀ (x1 : Int32) (σ : S0),
    ((16 ≤ x1 →
      G30 0 σ) ∧
    (¬ 16 ≤ x1 →
      vp_in x1 16 ∧
      (∀ σ1 : S0, σ1 = st σ 6 x1.toNatClampNeg 0 →
      vp_in x1 16 ∧
      (∀ σ2 : S0, σ2 = st σ1 5 x1.toNatClampNeg (-1) →
      G2 (x1 + 1) σ2)))) →
    G2 x1 σ) →
  (∀ (x1 : Int32) (σ : S0),
    ((16 ≤ x1 →
      cpok 16 16 16 ∧
      (∀ σ3 : S0, σ3 = cp σ 6 9 (16 : Int32).toNatClampNeg →
      Sp_D_leadersOf (σ3 0 1) σ3 (fun (r5 : Int32) (σ4 : S0) =>
      Sp_M_goOn_9 r5 σ4 (fun (σ6 : S0) =>
      post σ6)))) ∧
    (¬ 16 ≤ x1 →
      vp_in x1 16 ∧
      vp_in (σ 4 x1.toNatClampNeg) 16 ∧
      vp_in x1 16 ∧
      Sp_D_leadersOf (σ 7 x1.toNatClampNeg) σ (fun (r8 : Int32) (σ7 : S0) =>
      vp_in (σ 4 x1.toNatClampNeg) 16 ∧
      (∀ σ9 : S0, σ9 = st σ7 6 (σ 4 x1.toNatClampNeg).toNatClampNeg ((σ 6 (σ 4 x1.toNatClampNeg).toNatClampNeg) ||| r8) →
      vp_in x1 16 ∧
      vp_in x1 16 ∧
      Sp_D_lowerGroupPhase (σ9 4 x1.toNatClampNeg) (σ9 8 x1.toNatClampNeg) σ9 (fun (σ10 : S0) =>
      G30 (x1 + 1) σ10))))) →
    G30 x1 σ) →
  G2 0 σ
/-- MatrixSheets$Dig: int tellAbove(int, int) -/
def Sp_D_tellAbove (a1 a2 : Int32) (σ : S0) (post : Int32 → S0 → Prop) : Prop :=
  vp_in a1 16 ∧
  Sp_M_has (σ 7 a1.toNatClampNeg) a2 σ (fun (r2 : Int32) (σ1 : S0) =>
  ((r2 = 0 →
    vp_in a1 16 ∧
    vp_in a2 16 ∧
    (((σ1 4 a1.toNatClampNeg) = (σ1 4 a2.toNatClampNeg) →
      post (-1) σ1) ∧
    (¬ (σ1 4 a1.toNatClampNeg) = (σ1 4 a2.toNatClampNeg) →
      vp_in a2 16 ∧
      vp_in (σ1 4 a2.toNatClampNeg) 16 ∧
      vp_in a1 16 ∧
      Sp_M_has (σ1 9 (σ1 4 a2.toNatClampNeg).toNatClampNeg) (σ1 4 a1.toNatClampNeg) σ1 (fun (r4 : Int32) (σ3 : S0) =>
      ((r4 = 0 →
        vp_in a1 16 ∧
        vp_in a1 16 ∧
        (∀ σ5 : S0, σ5 = st σ3 7 a1.toNatClampNeg ((σ3 7 a1.toNatClampNeg) ||| (1 <<< (a2 &&& 31))) →
        (∀ σ6 : S0, σ6 = st σ5 0 3 ((σ5 0 3) + 1) →
        (∀ σ7 : S0, σ7 = st σ6 0 1 ((σ6 0 1) ||| ((1 <<< (a1 &&& 31)) ||| (1 <<< (a2 &&& 31)))) →
        Sp_D_settle σ7 (fun (σ8 : S0) =>
        post 1 σ8))))) ∧
      (¬ r4 = 0 →
        post (-1) σ3)))))) ∧
  (¬ r2 = 0 →
    post 0 σ1)))
/-- MatrixSheets: private int changed(int) -/
def Sp_M_changed (a1 : Int32) (σ : S0) (post : Int32 → S0 → Prop) : Prop :=
  ((¬ a1 = 1 →
    post a1 σ) ∧
  (a1 = 1 →
    (∀ σ1 : S0, σ1 = st σ 0 0 0 →
    post a1 σ1)))
/-- MatrixSheets: public int above(int, int) -/
def Sp_M_above (a1 a2 : Int32) (σ : S0) (post : Int32 → S0 → Prop) (px : Nat → S0 → Prop) : Prop :=
  Sp_M_needContext a1 σ (fun (σ1 : S0) =>
  Sp_M_needContext a2 σ1 (fun (σ2 : S0) =>
  Sp_D_tellAbove a1 a2 σ2 (fun (r4 : Int32) (σ3 : S0) =>
  Sp_M_changed r4 σ3 (fun (r6 : Int32) (σ5 : S0) =>
  post r6 σ5))) px) px
/-- MatrixSheets$Dig: private void join(int, int) -/
def Sp_D_join (a1 a2 : Int32) (σ : S0) (post : S0 → Prop) : Prop :=
  ∀ G2 : Int32 → Int32 → Int32 → S0 → Prop,
  (∀ (x1 x2 x3 : Int32) (σ : S0),
    ((16 ≤ x3 →
      post σ) ∧
    (¬ 16 ≤ x3 →
      vp_in x3 16 ∧
      ((¬ (σ 4 x3.toNatClampNeg) = x2 →
        G2 x1 x2 (x3 + 1) σ) ∧
      ((σ 4 x3.toNatClampNeg) = x2 →
        vp_in x3 16 ∧
        (∀ σ1 : S0, σ1 = st σ 4 x3.toNatClampNeg x1 →
        G2 x1 x2 (x3 + 1) σ1))))) →
    G2 x1 x2 x3 σ) →
  G2 a1 a2 0 σ
/-- MatrixSheets$Dig: int tellSame(int, int) -/
def Sp_D_tellSame (a1 a2 : Int32) (σ : S0) (post : Int32 → S0 → Prop) : Prop :=
  vp_in a1 16 ∧
  (∀ v1 : Int32, v1 = (σ 4 a1.toNatClampNeg) →
  vp_in a2 16 ∧
  (∀ v2 : Int32, v2 = (σ 4 a2.toNatClampNeg) →
  ((¬ v1 = v2 →
    vp_in v1 16 ∧
    Sp_M_has (σ 9 v1.toNatClampNeg) v2 σ (fun (r4 : Int32) (σ3 : S0) =>
    ((¬ r4 = 0 →
      post (-1) σ3) ∧
    (r4 = 0 →
      vp_in v2 16 ∧
      Sp_M_has (σ3 9 v2.toNatClampNeg) v1 σ3 (fun (r6 : Int32) (σ5 : S0) =>
      ((r6 = 0 →
        Sp_D_join (jmin v1 v2) (jmax v1 v2) σ5 (fun (σ7 : S0) =>
        (∀ σ8 : S0, σ8 = st σ7 0 1 ((σ7 0 1) ||| ((1 <<< (a1 &&& 31)) ||| (1 <<< (a2 &&& 31)))) →
        Sp_D_settle σ8 (fun (σ9 : S0) =>
        post 1 σ9)))) ∧
      (¬ r6 = 0 →
        post (-1) σ5))))))) ∧
  (v1 = v2 →
    post 0 σ))))
/-- MatrixSheets: public int same(int, int) -/
def Sp_M_same (a1 a2 : Int32) (σ : S0) (post : Int32 → S0 → Prop) (px : Nat → S0 → Prop) : Prop :=
  Sp_M_needContext a1 σ (fun (σ1 : S0) =>
  Sp_M_needContext a2 σ1 (fun (σ2 : S0) =>
  Sp_D_tellSame a1 a2 σ2 (fun (r4 : Int32) (σ3 : S0) =>
  Sp_M_changed r4 σ3 (fun (r6 : Int32) (σ5 : S0) =>
  post r6 σ5))) px) px
/-- MatrixSheets$Dig: int tellPhase(int, int) -/
def Sp_D_tellPhase (a1 a2 : Int32) (σ : S0) (post : Int32 → S0 → Prop) : Prop :=
  vp_in a1 16 ∧
  (∀ v1 : Int32, v1 = (σ 8 a1.toNatClampNeg) →
  vp_in a1 16 ∧
  (∀ σ2 : S0, σ2 = st σ 8 a1.toNatClampNeg a2 →
  (∀ σ3 : S0, σ3 = st σ2 0 1 ((σ2 0 1) ||| (1 <<< (a1 &&& 31))) →
  Sp_D_settle σ3 (fun (σ4 : S0) =>
  post v1 σ4))))
/-- MatrixSheets: public int phase(int, int) -/
def Sp_M_phase (a1 a2 : Int32) (σ : S0) (post : Int32 → S0 → Prop) (px : Nat → S0 → Prop) : Prop :=
  ∀ G19 : S0 → Prop,
  ∀ G29 : Int32 → Int32 → S0 → Prop,
  (∀ (σ : S0),
    px 2 σ →
    G19  σ) →
  (∀ (x1 x2 : Int32) (σ : S0),
    (∀ σ2 : S0, σ2 = st σ 0 0 0 →
    Sp_D_tellPhase x1 x2 σ2 (fun (r4 : Int32) (σ3 : S0) =>
    post r4 σ3)) →
    G29 x1 x2 σ) →
  Sp_M_needContext a1 σ (fun (σ1 : S0) =>
  ((a2 = (-1) →
    G29 a1 a2 σ1) ∧
  (¬ a2 = (-1) →
    ((a2 < 0 →
      G19  σ1) ∧
    (¬ a2 < 0 →
      ((a2 < 6 →
        G29 a1 a2 σ1) ∧
      (¬ a2 < 6 →
        G19  σ1))))))) px
/-- MatrixSheets$Dig: boolean tellHidden(int, boolean) -/
def Sp_D_tellHidden (a1 a2 : Int32) (σ : S0) (post : Int32 → S0 → Prop) : Prop :=
  Sp_M_has (σ 0 2) a1 σ (fun (r2 : Int32) (σ1 : S0) =>
  ((¬ r2 = a2 →
    (∀ σ3 : S0, σ3 = st σ1 0 2 ((σ1 0 2) ^^^ (1 <<< (a1 &&& 31))) →
    (∀ σ4 : S0, σ4 = st σ3 0 1 ((σ3 0 1) ||| (1 <<< (a1 &&& 31))) →
    post 1 σ4))) ∧
  (r2 = a2 →
    post 0 σ1)))
/-- MatrixSheets: public boolean hide(int, boolean) -/
def Sp_M_hide (a1 a2 : Int32) (σ : S0) (post : Int32 → S0 → Prop) (px : Nat → S0 → Prop) : Prop :=
  Sp_M_needContext a1 σ (fun (σ1 : S0) =>
  (∀ σ2 : S0, σ2 = st σ1 0 0 0 →
  Sp_D_tellHidden a1 a2 σ2 (fun (r4 : Int32) (σ3 : S0) =>
  bo r4 ∧
  post r4 σ3))) px
/-- MatrixSheets: public int group(int) -/
def Sp_M_group (a1 : Int32) (σ : S0) (post : Int32 → S0 → Prop) (px : Nat → S0 → Prop) : Prop :=
  Sp_M_needContext a1 σ (fun (σ1 : S0) =>
  vp_in a1 16 ∧
  post (σ1 4 a1.toNatClampNeg) σ1) px
/-- MatrixSheets$Dig: boolean isLaterPhase(int, int) -/
def Sp_D_isLaterPhase (a1 a2 : Int32) (σ : S0) (post : Int32 → S0 → Prop) : Prop :=
  vp_in a2 16 ∧
  (((σ 5 a2.toNatClampNeg) = (-1) →
    post 0 σ) ∧
  (¬ (σ 5 a2.toNatClampNeg) = (-1) →
    vp_in a1 16 ∧
    vp_in a2 16 ∧
    (((σ 5 a1.toNatClampNeg) ≤ (σ 5 a2.toNatClampNeg) →
      post 0 σ) ∧
    (¬ (σ 5 a1.toNatClampNeg) ≤ (σ 5 a2.toNatClampNeg) →
      post 1 σ))))
/-- MatrixSheets$Dig: int findMisfit(int) -/
def Sp_D_findMisfit (a1 : Int32) (σ : S0) (post : Int32 → S0 → Prop) : Prop :=
  ∀ G4 : Int32 → Int32 → S0 → Prop,
  ∀ G13 : Int32 → Int32 → Int32 → S0 → Prop,
  (∀ (x2 x3 : Int32) (σ : S0),
    ((16 ≤ x3 →
      post (-1) σ) ∧
    (¬ 16 ≤ x3 →
      G13 x2 x3 0 σ)) →
    G4 x2 x3 σ) →
  (∀ (x2 x3 x4 : Int32) (σ : S0),
    ((16 ≤ x4 →
      G4 x2 (x3 + 1) σ) ∧
    (¬ 16 ≤ x4 →
      vp_in x3 16 ∧
      Sp_M_has (σ 9 x3.toNatClampNeg) x4 σ (fun (r2 : Int32) (σ1 : S0) =>
      ((r2 = 0 →
        G13 x2 x3 (x4 + 1) σ1) ∧
      (¬ r2 = 0 →
        Sp_D_isLaterPhase x3 x4 σ1 (fun (r4 : Int32) (σ3 : S0) =>
        ((r4 = 0 →
          G13 x2 x3 (x4 + 1) σ3) ∧
        (¬ r4 = 0 →
          ((¬ x2 = 0 →
            G13 (x2 + (-1)) x3 (x4 + 1) σ3) ∧
          (x2 = 0 →
            post ((16 * x3) + x4) σ3)))))))))) →
    G13 x2 x3 x4 σ) →
  G4 a1 0 σ
/-- MatrixSheets: public int misfit(int, int) -/
def Sp_M_misfit (a1 a2 : Int32) (σ : S0) (post : Int32 → S0 → Prop) (px : Nat → S0 → Prop) : Prop :=
  ∀ G18 : Int32 → Int32 → Int32 → S0 → Prop,
  (∀ (x1 x2 t0 : Int32) (σ : S0),
    Sp_M_need t0 σ (fun (σ1 : S0) =>
    Sp_D_findMisfit x1 σ1 (fun (r3 : Int32) (σ2 : S0) =>
    ((¬ r3 = (-1) →
      ((¬ x2 = 0 →
        post (r3 - r3 / 16 * 16) σ2) ∧
      (x2 = 0 →
        post (r3 / 16) σ2))) ∧
    (r3 = (-1) →
      post (-1) σ2)))) px →
    G18 x1 x2 t0 σ) →
  ((a1 < 0 →
    G18 a1 a2 0 σ) ∧
  (¬ a1 < 0 →
    ((a2 = 0 →
      G18 a1 a2 1 σ) ∧
    (¬ a2 = 0 →
      ((¬ a2 = 1 →
        G18 a1 a2 0 σ) ∧
      (a2 = 1 →
        G18 a1 a2 1 σ))))))
/-- MatrixSheets: private static void goOn(int[], int) -/
def Sp_M_goOn_13 (a1 : Int32) (σ : S0) (post : S0 → Prop) : Prop :=
  ∀ G2 : Int32 → Int32 → S0 → Prop,
  ∀ G10 : Int32 → Int32 → Int32 → S0 → Prop,
  (∀ (x1 x2 : Int32) (σ : S0),
    ((16 ≤ x2 →
      post σ) ∧
    (¬ 16 ≤ x2 →
      G10 x1 x2 0 σ)) →
    G2 x1 x2 σ) →
  (∀ (x1 x2 x3 : Int32) (σ : S0),
    ((16 ≤ x3 →
      G2 x1 (x2 + 1) σ) ∧
    (¬ 16 ≤ x3 →
      Sp_M_has x1 x2 σ (fun (r2 : Int32) (σ1 : S0) =>
      ((r2 = 0 →
        G10 x1 x2 (x3 + 1) σ1) ∧
      (¬ r2 = 0 →
        vp_in x3 16 ∧
        Sp_M_has (σ1 13 x3.toNatClampNeg) x2 σ1 (fun (r4 : Int32) (σ3 : S0) =>
        ((r4 = 0 →
          G10 x1 x2 (x3 + 1) σ3) ∧
        (¬ r4 = 0 →
          vp_in x3 16 ∧
          vp_in x2 16 ∧
          vp_in x3 16 ∧
          (∀ σ5 : S0, σ5 = st σ3 13 x3.toNatClampNeg ((σ3 13 x3.toNatClampNeg) ||| (σ3 13 x2.toNatClampNeg)) →
          G10 x1 x2 (x3 + 1) σ5))))))))) →
    G10 x1 x2 x3 σ) →
  G2 a1 0 σ
/-- MatrixSheets$Plan: private void findLinks(MatrixSheets$Dig) -/
def Sp_P_findLinks (σ : S0) (post : S0 → Prop) : Prop :=
  ∀ G46 : Int32 → S0 → Prop,
  ∀ G55 : Int32 → Int32 → S0 → Prop,
  (∀ (x3 : Int32) (σ : S0),
    ((16 ≤ x3 →
      post σ) ∧
    (¬ 16 ≤ x3 →
      G55 x3 0 σ)) →
    G46 x3 σ) →
  (∀ (x3 x4 : Int32) (σ : S0),
    ((16 ≤ x4 →
      G46 (x3 + 1) σ) ∧
    (¬ 16 ≤ x4 →
      Sp_M_has (σ 0 4) x3 σ (fun (r8 : Int32) (σ7 : S0) =>
      ((r8 = 0 →
        G55 x3 (x4 + 1) σ7) ∧
      (¬ r8 = 0 →
        vp_in x3 16 ∧
        Sp_M_has ((σ7 13 x3.toNatClampNeg) &&& (σ7 0 4)) x4 σ7 (fun (r10 : Int32) (σ9 : S0) =>
        ((r10 = 0 →
          G55 x3 (x4 + 1) σ9) ∧
        (¬ r10 = 0 →
          vp_in (σ9 0 6) 256 ∧
          (∀ σ11 : S0, σ11 = st σ9 11 (σ9 0 6).toNatClampNeg x3 →
          vp_in (σ11 0 6) 256 ∧
          (∀ σ12 : S0, σ12 = st σ11 12 (σ11 0 6).toNatClampNeg x4 →
          (∀ σ13 : S0, σ13 = st σ12 0 6 ((σ12 0 6) + 1) →
          G55 x3 (x4 + 1) σ13))))))))))) →
    G55 x3 x4 σ) →
  Sp_D_leadersOf (σ 0 1) σ (fun (r2 : Int32) (σ1 : S0) =>
  (∀ v3 : Int32, v3 = (r2 &&& ((σ1 0 4) ^^^ (-1))) →
  cpok 16 16 16 ∧
  (∀ σ4 : S0, σ4 = cp σ1 6 13 (16 : Int32).toNatClampNeg →
  Sp_M_goOn_13 v3 σ4 (fun (σ5 : S0) =>
  (∀ σ6 : S0, σ6 = st σ5 0 6 0 →
  G46 0 σ6)))))
/-- MatrixSheets$Plan: private void findForerunners(MatrixSheets$Dig) -/
def Sp_P_findForerunners (σ : S0) (post : S0 → Prop) : Prop :=
  ∀ G2 : Int32 → S0 → Prop,
  ∀ G17 : Int32 → Int32 → S0 → Prop,
  ∀ G56 : Int32 → Int32 → S0 → Prop,
  (∀ (x2 : Int32) (σ : S0),
    ((16 ≤ x2 →
      post σ) ∧
    (¬ 16 ≤ x2 →
      vp_in x2 16 ∧
      (∀ σ1 : S0, σ1 = st σ 14 x2.toNatClampNeg 0 →
      G17 x2 0 σ1))) →
    G2 x2 σ) →
  (∀ (x2 x3 : Int32) (σ : S0),
    ((16 ≤ x3 →
      G2 (x2 + 1) σ) ∧
    (¬ 16 ≤ x3 →
      Sp_M_has (σ 0 4) x3 σ (fun (r3 : Int32) (σ2 : S0) =>
      ((r3 = 0 →
        G17 x2 (x3 + 1) σ2) ∧
      (¬ r3 = 0 →
        vp_in x3 16 ∧
        Sp_M_has (σ2 13 x3.toNatClampNeg) x2 σ2 (fun (r5 : Int32) (σ4 : S0) =>
        ((¬ r5 = 0 →
          G56 x2 x3 σ4) ∧
        (r5 = 0 →
          Sp_D_isLaterPhase x2 x3 σ4 (fun (r7 : Int32) (σ6 : S0) =>
          ((r7 = 0 →
            G17 x2 (x3 + 1) σ6) ∧
          (¬ r7 = 0 →
            G56 x2 x3 σ6))))))))))) →
    G17 x2 x3 σ) →
  (∀ (x2 x3 : Int32) (σ : S0),
    vp_in x2 16 ∧
    vp_in x2 16 ∧
    (∀ σ8 : S0, σ8 = st σ 14 x2.toNatClampNeg ((σ 14 x2.toNatClampNeg) ||| (1 <<< (x3 &&& 31))) →
    G17 x2 (x3 + 1) σ8) →
    G56 x2 x3 σ) →
  G2 0 σ
/-- MatrixSheets$Plan: private void layRows() -/
def Sp_P_layRows (σ : S0) (post : S0 → Prop) : Prop :=
  ∀ G7 : Int32 → S0 → Prop,
  ∀ G28 : Int32 → Int32 → Int32 → S0 → Prop,
  (∀ (x1 : Int32) (σ : S0),
    ((x1 = (σ 0 4) →
      post σ) ∧
    (¬ x1 = (σ 0 4) →
      ((16 ≤ (σ 0 5) →
        post σ) ∧
      (¬ 16 ≤ (σ 0 5) →
        G28 x1 0 0 σ)))) →
    G7 x1 σ) →
  (∀ (x1 x2 x3 : Int32) (σ : S0),
    ((16 ≤ x3 →
      (∀ v2 : Int32, v2 = (x1 ||| x2) →
      (∀ σ3 : S0, σ3 = st σ 0 5 ((σ 0 5) + 1) →
      G7 v2 σ3))) ∧
    (¬ 16 ≤ x3 →
      Sp_M_has ((σ 0 4) &&& (x1 ^^^ (-1))) x3 σ (fun (r5 : Int32) (σ4 : S0) =>
      ((r5 = 0 →
        G28 x1 x2 (x3 + 1) σ4) ∧
      (¬ r5 = 0 →
        vp_in x3 16 ∧
        ((¬ ((σ4 14 x3.toNatClampNeg) &&& (x1 ^^^ (-1))) = 0 →
          G28 x1 x2 (x3 + 1) σ4) ∧
        (((σ4 14 x3.toNatClampNeg) &&& (x1 ^^^ (-1))) = 0 →
          vp_in x3 16 ∧
          (∀ σ6 : S0, σ6 = st σ4 10 x3.toNatClampNeg (σ4 0 5) →
          (∀ v7 : Int32, v7 = (x2 ||| (1 <<< (x3 &&& 31))) →
          G28 x1 v7 (x3 + 1) σ6))))))))) →
    G28 x1 x2 x3 σ) →
  (∀ σ1 : S0, σ1 = st σ 0 5 0 →
  G7 0 σ1)
/-- MatrixSheets$Plan: int bendsOf(int) -/
def Sp_P_bendsOf (a1 : Int32) (σ : S0) (post : Int32 → S0 → Prop) : Prop :=
  vp_in a1 256 ∧
  vp_in (σ 12 a1.toNatClampNeg) 16 ∧
  vp_in a1 256 ∧
  vp_in (σ 11 a1.toNatClampNeg) 16 ∧
  post (((σ 10 (σ 12 a1.toNatClampNeg).toNatClampNeg) - (σ 10 (σ 11 a1.toNatClampNeg).toNatClampNeg)) - 1) σ
/-- MatrixSheets$Plan: private void layBends() -/
def Sp_P_layBends (σ : S0) (post : S0 → Prop) : Prop :=
  ∀ G7 : Int32 → S0 → Prop,
  (∀ (x1 : Int32) (σ : S0),
    (((σ 0 6) ≤ x1 →
      post σ) ∧
    (¬ (σ 0 6) ≤ x1 →
      vp_in x1 256 ∧
      (∀ σ2 : S0, σ2 = st σ 15 x1.toNatClampNeg (σ 0 7) →
      Sp_P_bendsOf x1 σ2 (fun (r4 : Int32) (σ3 : S0) =>
      (∀ σ5 : S0, σ5 = st σ3 0 7 ((σ2 0 7) + r4) →
      G7 (x1 + 1) σ5))))) →
    G7 x1 σ) →
  (∀ σ1 : S0, σ1 = st σ 0 7 0 →
  G7 0 σ1)
/-- MatrixSheets$Plan: void make(MatrixSheets$Dig) -/
def Sp_P_make (σ : S0) (post : S0 → Prop) : Prop :=
  Sp_D_leadersOf ((σ 0 1) &&& ((σ 0 2) ^^^ (-1))) σ (fun (r2 : Int32) (σ1 : S0) =>
  (∀ σ3 : S0, σ3 = st σ1 0 4 r2 →
  Sp_P_findLinks σ3 (fun (σ4 : S0) =>
  Sp_P_findForerunners σ4 (fun (σ5 : S0) =>
  Sp_P_layRows σ5 (fun (σ6 : S0) =>
  Sp_P_layBends σ6 (fun (σ7 : S0) =>
  post σ7))))))
/-- MatrixSheets$Order: private void layMark(int) -/
def Sp_O_layMark (a1 : Int32) (σ : S0) (post : S0 → Prop) : Prop :=
  vp_in (σ 0 10) 166 ∧
  (∀ σ1 : S0, σ1 = st σ 18 (σ 0 10).toNatClampNeg a1 →
  (∀ σ2 : S0, σ2 = st σ1 0 10 ((σ1 0 10) + 1) →
  post σ2))
/-- MatrixSheets$Order: private void numberPlaces(int, int) -/
def Sp_O_numberPlaces (a1 a2 : Int32) (σ : S0) (post : S0 → Prop) : Prop :=
  ∀ G7 : Int32 → Int32 → Int32 → S0 → Prop,
  (∀ (x1 x2 x3 : Int32) (σ : S0),
    ((x2 ≤ x3 →
      post σ) ∧
    (¬ x2 ≤ x3 →
      vp_in x3 166 ∧
      vp_in x1 17 ∧
      vp_in (σ 18 x3.toNatClampNeg) 166 ∧
      (∀ σ2 : S0, σ2 = st σ 16 (σ 18 x3.toNatClampNeg).toNatClampNeg (x3 - (σ 20 x1.toNatClampNeg)) →
      G7 x1 x2 (x3 + 1) σ2))) →
    G7 x1 x2 x3 σ) →
  vp_in a1 17 ∧
  (∀ v1 : Int32, v1 = (σ 20 a1.toNatClampNeg) →
  G7 a1 a2 v1 σ)
/-- MatrixSheets$Plan: int pointOf(int, int) -/
def Sp_P_pointOf (a1 a2 : Int32) (σ : S0) (post : Int32 → S0 → Prop) : Prop :=
  ((0 < a2 →
    Sp_P_bendsOf a1 σ (fun (r2 : Int32) (σ1 : S0) =>
    ((a2 ≤ r2 →
      vp_in a1 256 ∧
      post (((16 + (σ1 15 a1.toNatClampNeg)) + a2) - 1) σ1) ∧
    (¬ a2 ≤ r2 →
      vp_in a1 256 ∧
      post (σ1 12 a1.toNatClampNeg) σ1)))) ∧
  (¬ 0 < a2 →
    vp_in a1 256 ∧
    post (σ 11 a1.toNatClampNeg) σ))
/-- MatrixSheets$Order: private void layMarks(MatrixSheets$Plan) -/
def Sp_O_layMarks (σ : S0) (post : S0 → Prop) : Prop :=
  ∀ G7 : Int32 → S0 → Prop,
  ∀ G27 : Int32 → Int32 → S0 → Prop,
  ∀ G67 : Int32 → Int32 → S0 → Prop,
  (∀ (x2 : Int32) (σ : S0),
    (((σ 0 9) ≤ x2 →
      vp_in (σ 0 9) 17 ∧
      (∀ σ2 : S0, σ2 = st σ 20 (σ 0 9).toNatClampNeg (σ 0 10) →
      post σ2)) ∧
    (¬ (σ 0 9) ≤ x2 →
      vp_in x2 17 ∧
      (∀ σ3 : S0, σ3 = st σ 20 x2.toNatClampNeg (σ 0 10) →
      G27 x2 0 σ3))) →
    G7 x2 σ) →
  (∀ (x2 x3 : Int32) (σ : S0),
    ((16 ≤ x3 →
      G67 x2 0 σ) ∧
    (¬ 16 ≤ x3 →
      Sp_M_has (σ 0 4) x3 σ (fun (r5 : Int32) (σ4 : S0) =>
      ((r5 = 0 →
        G27 x2 (x3 + 1) σ4) ∧
      (¬ r5 = 0 →
        vp_in x3 16 ∧
        ((¬ (σ4 10 x3.toNatClampNeg) = x2 →
          G27 x2 (x3 + 1) σ4) ∧
        ((σ4 10 x3.toNatClampNeg) = x2 →
          Sp_O_layMark x3 σ4 (fun (σ6 : S0) =>
          G27 x2 (x3 + 1) σ6)))))))) →
    G27 x2 x3 σ) →
  (∀ (x2 x3 : Int32) (σ : S0),
    (((σ 0 6) ≤ x3 →
      Sp_O_numberPlaces x2 (σ 0 10) σ (fun (σ7 : S0) =>
      G7 (x2 + 1) σ7)) ∧
    (¬ (σ 0 6) ≤ x3 →
      vp_in x3 256 ∧
      vp_in (σ 11 x3.toNatClampNeg) 16 ∧
      (∀ v8 : Int32, v8 = (x2 - (σ 10 (σ 11 x3.toNatClampNeg).toNatClampNeg)) →
      ((v8 ≤ 0 →
        G67 x2 (x3 + 1) σ) ∧
      (¬ v8 ≤ 0 →
        Sp_P_bendsOf x3 σ (fun (r10 : Int32) (σ9 : S0) =>
        ((r10 < v8 →
          G67 x2 (x3 + 1) σ9) ∧
        (¬ r10 < v8 →
          Sp_P_pointOf x3 v8 σ9 (fun (r12 : Int32) (σ11 : S0) =>
          Sp_O_layMark r12 σ11 (fun (σ13 : S0) =>
          G67 x2 (x3 + 1) σ13)))))))))) →
    G67 x2 x3 σ) →
  (∀ σ1 : S0, σ1 = st σ 0 10 0 →
  G7 0 σ1)
/-- MatrixSheets$Order: private void layPieces(MatrixSheets$Plan) -/
def Sp_O_layPieces (σ : S0) (post : S0 → Prop) : Prop :=
  ∀ G7 : Int32 → S0 → Prop,
  ∀ G27 : Int32 → Int32 → S0 → Prop,
  (∀ (x2 : Int32) (σ : S0),
    (((σ 0 9) ≤ x2 →
      vp_in (σ 0 9) 17 ∧
      (∀ σ2 : S0, σ2 = st σ 23 (σ 0 9).toNatClampNeg (σ 0 11) →
      post σ2)) ∧
    (¬ (σ 0 9) ≤ x2 →
      vp_in x2 17 ∧
      (∀ σ3 : S0, σ3 = st σ 23 x2.toNatClampNeg (σ 0 11) →
      G27 x2 0 σ3))) →
    G7 x2 σ) →
  (∀ (x2 x3 : Int32) (σ : S0),
    (((σ 0 6) ≤ x3 →
      G7 (x2 + 1) σ) ∧
    (¬ (σ 0 6) ≤ x3 →
      vp_in x3 256 ∧
      vp_in (σ 11 x3.toNatClampNeg) 16 ∧
      (∀ v4 : Int32, v4 = (x2 - (σ 10 (σ 11 x3.toNatClampNeg).toNatClampNeg)) →
      ((v4 < 0 →
        G27 x2 (x3 + 1) σ) ∧
      (¬ v4 < 0 →
        Sp_P_bendsOf x3 σ (fun (r6 : Int32) (σ5 : S0) =>
        ((r6 < v4 →
          G27 x2 (x3 + 1) σ5) ∧
        (¬ r6 < v4 →
          Sp_P_pointOf x3 v4 σ5 (fun (r8 : Int32) (σ7 : S0) =>
          vp_in (σ5 0 11) 406 ∧
          (∀ σ9 : S0, σ9 = st σ7 21 (σ5 0 11).toNatClampNeg r8 →
          Sp_P_pointOf x3 (v4 + 1) σ9 (fun (r11 : Int32) (σ10 : S0) =>
          vp_in (σ9 0 11) 406 ∧
          (∀ σ12 : S0, σ12 = st σ10 22 (σ9 0 11).toNatClampNeg r11 →
          (∀ σ13 : S0, σ13 = st σ12 0 11 ((σ12 0 11) + 1) →
          G27 x2 (x3 + 1) σ13))))))))))))) →
    G27 x2 x3 σ) →
  (∀ σ1 : S0, σ1 = st σ 0 11 0 →
  G7 0 σ1)
/-- MatrixSheets$Order: private int countCrossed(int, int) -/
def Sp_O_countCrossed (a1 a2 : Int32) (σ : S0) (post : Int32 → S0 → Prop) : Prop :=
  ∀ G33 : Int32 → Int32 → Int32 → Int32 → Int32 → S0 → Prop,
  (∀ (x2 x3 x4 x5 x6 : Int32) (σ : S0),
    ((x2 ≤ x6 →
      post x5 σ) ∧
    (¬ x2 ≤ x6 →
      vp_in x6 406 ∧
      vp_in (σ 21 x6.toNatClampNeg) 166 ∧
      vp_in x6 406 ∧
      vp_in (σ 22 x6.toNatClampNeg) 166 ∧
      ((0 ≤ (((σ 16 (σ 21 x6.toNatClampNeg).toNatClampNeg) - x3) * ((σ 16 (σ 22 x6.toNatClampNeg).toNatClampNeg) - x4)) →
        G33 x2 x3 x4 x5 (x6 + 1) σ) ∧
      (¬ 0 ≤ (((σ 16 (σ 21 x6.toNatClampNeg).toNatClampNeg) - x3) * ((σ 16 (σ 22 x6.toNatClampNeg).toNatClampNeg) - x4)) →
        G33 x2 x3 x4 (x5 + 1) (x6 + 1) σ)))) →
    G33 x2 x3 x4 x5 x6 σ) →
  vp_in a1 406 ∧
  vp_in (σ 21 a1.toNatClampNeg) 166 ∧
  (∀ v1 : Int32, v1 = (σ 16 (σ 21 a1.toNatClampNeg).toNatClampNeg) →
  vp_in a1 406 ∧
  vp_in (σ 22 a1.toNatClampNeg) 166 ∧
  (∀ v2 : Int32, v2 = (σ 16 (σ 22 a1.toNatClampNeg).toNatClampNeg) →
  (∀ v3 : Int32, v3 = (a1 + 1) →
  G33 a2 v1 v2 0 v3 σ)))
/-- MatrixSheets$Order: private int countCrossings() -/
def Sp_O_countCrossings (σ : S0) (post : Int32 → S0 → Prop) : Prop :=
  ∀ G4 : Int32 → Int32 → S0 → Prop,
  ∀ G19 : Int32 → Int32 → Int32 → S0 → Prop,
  (∀ (x1 x2 : Int32) (σ : S0),
    (((σ 0 9) ≤ x2 →
      post x1 σ) ∧
    (¬ (σ 0 9) ≤ x2 →
      vp_in x2 17 ∧
      (∀ v1 : Int32, v1 = (σ 23 x2.toNatClampNeg) →
      G19 x1 x2 v1 σ))) →
    G4 x1 x2 σ) →
  (∀ (x1 x2 x3 : Int32) (σ : S0),
    vp_in (x2 + 1) 17 ∧
    (((σ 23 (x2 + 1).toNatClampNeg) ≤ x3 →
      G4 x1 (x2 + 1) σ) ∧
    (¬ (σ 23 (x2 + 1).toNatClampNeg) ≤ x3 →
      vp_in (x2 + 1) 17 ∧
      Sp_O_countCrossed x3 (σ 23 (x2 + 1).toNatClampNeg) σ (fun (r3 : Int32) (σ2 : S0) =>
      (∀ v4 : Int32, v4 = (x1 + r3) →
      G19 v4 x2 (x3 + 1) σ2)))) →
    G19 x1 x2 x3 σ) →
  G4 0 0 σ
/-- MatrixSheets$Order: private void keepBest() -/
def Sp_O_keepBest (σ : S0) (post : S0 → Prop) : Prop :=
  cpok (σ 0 10) 166 166 ∧
  (∀ σ1 : S0, σ1 = cp σ 18 19 (σ 0 10).toNatClampNeg →
  post σ1)
/-- MatrixSheets$Order: private void takeBest() -/
def Sp_O_takeBest (σ : S0) (post : S0 → Prop) : Prop :=
  ∀ G19 : Int32 → S0 → Prop,
  (∀ (x1 : Int32) (σ : S0),
    (((σ 0 9) ≤ x1 →
      post σ) ∧
    (¬ (σ 0 9) ≤ x1 →
      vp_in (x1 + 1) 17 ∧
      Sp_O_numberPlaces x1 (σ 20 (x1 + 1).toNatClampNeg) σ (fun (σ2 : S0) =>
      G19 (x1 + 1) σ2))) →
    G19 x1 σ) →
  cpok (σ 0 10) 166 166 ∧
  (∀ σ1 : S0, σ1 = cp σ 19 18 (σ 0 10).toNatClampNeg →
  G19 0 σ1)
/-- MatrixSheets$Order: private void weigh(int, int, int[], int[]) -/
def Sp_O_weigh_22_21 (a1 a2 : Int32) (σ : S0) (post : S0 → Prop) : Prop :=
  ∀ G8 : Int32 → Int32 → Int32 → S0 → Prop,
  ∀ G61 : Int32 → Int32 → Int32 → S0 → Prop,
  ∀ G123 : Int32 → Int32 → S0 → Prop,
  (∀ (x1 x2 x5 : Int32) (σ : S0),
    vp_in (x1 + 1) 17 ∧
    (((σ 20 (x1 + 1).toNatClampNeg) ≤ x5 →
      vp_in x2 17 ∧
      (∀ v2 : Int32, v2 = (σ 23 x2.toNatClampNeg) →
      G61 x1 x2 v2 σ)) ∧
    (¬ (σ 20 (x1 + 1).toNatClampNeg) ≤ x5 →
      vp_in x5 166 ∧
      vp_in (σ 18 x5.toNatClampNeg) 166 ∧
      (∀ σ3 : S0, σ3 = st σ 24 (σ 18 x5.toNatClampNeg).toNatClampNeg 0 →
      vp_in x5 166 ∧
      vp_in (σ3 18 x5.toNatClampNeg) 166 ∧
      (∀ σ4 : S0, σ4 = st σ3 25 (σ3 18 x5.toNatClampNeg).toNatClampNeg 0 →
      G8 x1 x2 (x5 + 1) σ4)))) →
    G8 x1 x2 x5 σ) →
  (∀ (x1 x2 x5 : Int32) (σ : S0),
    vp_in (x2 + 1) 17 ∧
    (((σ 23 (x2 + 1).toNatClampNeg) ≤ x5 →
      vp_in x1 17 ∧
      (∀ v5 : Int32, v5 = (σ 20 x1.toNatClampNeg) →
      G123 x1 v5 σ)) ∧
    (¬ (σ 23 (x2 + 1).toNatClampNeg) ≤ x5 →
      vp_in x5 406 ∧
      vp_in (σ 22 x5.toNatClampNeg) 166 ∧
      vp_in x5 406 ∧
      vp_in (σ 21 x5.toNatClampNeg) 166 ∧
      vp_in (σ 22 x5.toNatClampNeg) 166 ∧
      (∀ σ6 : S0, σ6 = st σ 24 (σ 22 x5.toNatClampNeg).toNatClampNeg ((σ 24 (σ 22 x5.toNatClampNeg).toNatClampNeg) + (σ 16 (σ 21 x5.toNatClampNeg).toNatClampNeg)) →
      vp_in x5 406 ∧
      vp_in (σ6 22 x5.toNatClampNeg) 166 ∧
      vp_in (σ6 22 x5.toNatClampNeg) 166 ∧
      (∀ σ7 : S0, σ7 = st σ6 25 (σ6 22 x5.toNatClampNeg).toNatClampNeg ((σ6 25 (σ6 22 x5.toNatClampNeg).toNatClampNeg) + 1) →
      G61 x1 x2 (x5 + 1) σ7)))) →
    G61 x1 x2 x5 σ) →
  (∀ (x1 x5 : Int32) (σ : S0),
    vp_in (x1 + 1) 17 ∧
    (((σ 20 (x1 + 1).toNatClampNeg) ≤ x5 →
      post σ) ∧
    (¬ (σ 20 (x1 + 1).toNatClampNeg) ≤ x5 →
      vp_in x5 166 ∧
      vp_in (σ 18 x5.toNatClampNeg) 166 ∧
      ((¬ (σ 25 (σ 18 x5.toNatClampNeg).toNatClampNeg) = 0 →
        G123 x1 (x5 + 1) σ) ∧
      ((σ 25 (σ 18 x5.toNatClampNeg).toNatClampNeg) = 0 →
        vp_in x5 166 ∧
        vp_in x5 166 ∧
        vp_in (σ 18 x5.toNatClampNeg) 166 ∧
        vp_in (σ 18 x5.toNatClampNeg) 166 ∧
        (∀ σ8 : S0, σ8 = st σ 24 (σ 18 x5.toNatClampNeg).toNatClampNeg (σ 16 (σ 18 x5.toNatClampNeg).toNatClampNeg) →
        vp_in x5 166 ∧
        vp_in (σ8 18 x5.toNatClampNeg) 166 ∧
        (∀ σ9 : S0, σ9 = st σ8 25 (σ8 18 x5.toNatClampNeg).toNatClampNeg 1 →
        G123 x1 (x5 + 1) σ9)))))) →
    G123 x1 x5 σ) →
  vp_in a1 17 ∧
  (∀ v1 : Int32, v1 = (σ 20 a1.toNatClampNeg) →
  G8 a1 a2 v1 σ)
/-- MatrixSheets$Order: private boolean hasLesserKey(int, int) -/
def Sp_O_hasLesserKey (a1 a2 : Int32) (σ : S0) (post : Int32 → S0 → Prop) : Prop :=
  vp_in a1 166 ∧
  vp_in a2 166 ∧
  vp_in a2 166 ∧
  vp_in a1 166 ∧
  ((((σ 24 a2.toNatClampNeg) * (σ 25 a1.toNatClampNeg)) ≤ ((σ 24 a1.toNatClampNeg) * (σ 25 a2.toNatClampNeg)) →
    post 0 σ) ∧
  (¬ ((σ 24 a2.toNatClampNeg) * (σ 25 a1.toNatClampNeg)) ≤ ((σ 24 a1.toNatClampNeg) * (σ 25 a2.toNatClampNeg)) →
    post 1 σ))
/-- MatrixSheets$Order: private void sort(int, int) -/
def Sp_O_sort (a1 a2 : Int32) (σ : S0) (post : S0 → Prop) : Prop :=
  ∀ G4 : Int32 → Int32 → Int32 → S0 → Prop,
  ∀ G20 : Int32 → Int32 → Int32 → Int32 → Int32 → S0 → Prop,
  ∀ G66 : Int32 → Int32 → Int32 → Int32 → Int32 → S0 → Prop,
  (∀ (x1 x2 x3 : Int32) (σ : S0),
    ((x2 ≤ x3 →
      post σ) ∧
    (¬ x2 ≤ x3 →
      vp_in x3 166 ∧
      (∀ v2 : Int32, v2 = (σ 18 x3.toNatClampNeg) →
      G20 x1 x2 x3 v2 x3 σ))) →
    G4 x1 x2 x3 σ) →
  (∀ (x1 x2 x3 x4 x5 : Int32) (σ : S0),
    ((x5 ≤ x1 →
      G66 x1 x2 x3 x4 x5 σ) ∧
    (¬ x5 ≤ x1 →
      vp_in (x5 - 1) 166 ∧
      Sp_O_hasLesserKey x4 (σ 18 (x5 - 1).toNatClampNeg) σ (fun (r4 : Int32) (σ3 : S0) =>
      ((r4 = 0 →
        G66 x1 x2 x3 x4 x5 σ3) ∧
      (¬ r4 = 0 →
        vp_in (x5 - 1) 166 ∧
        vp_in x5 166 ∧
        (∀ σ5 : S0, σ5 = st σ3 18 x5.toNatClampNeg (σ3 18 (x5 - 1).toNatClampNeg) →
        G20 x1 x2 x3 x4 (x5 + (-1)) σ5)))))) →
    G20 x1 x2 x3 x4 x5 σ) →
  (∀ (x1 x2 x3 x4 x5 : Int32) (σ : S0),
    vp_in x5 166 ∧
    (∀ σ6 : S0, σ6 = st σ 18 x5.toNatClampNeg x4 →
    G4 x1 x2 (x3 + 1) σ6) →
    G66 x1 x2 x3 x4 x5 σ) →
  (∀ v1 : Int32, v1 = (a1 + 1) →
  G4 a1 a2 v1 σ)
/-- MatrixSheets$Order: private void arrange(int, int, int[], int[]) -/
def Sp_O_arrange_22_21 (a1 a2 : Int32) (σ : S0) (post : S0 → Prop) : Prop :=
  Sp_O_weigh_22_21 a1 a2 σ (fun (σ1 : S0) =>
  vp_in a1 17 ∧
  vp_in (a1 + 1) 17 ∧
  Sp_O_sort (σ1 20 a1.toNatClampNeg) (σ1 20 (a1 + 1).toNatClampNeg) σ1 (fun (σ2 : S0) =>
  vp_in (a1 + 1) 17 ∧
  Sp_O_numberPlaces a1 (σ2 20 (a1 + 1).toNatClampNeg) σ2 (fun (σ3 : S0) =>
  post σ3)))
/-- MatrixSheets$Order: private void weigh(int, int, int[], int[]) -/
def Sp_O_weigh_21_22 (a1 a2 : Int32) (σ : S0) (post : S0 → Prop) : Prop :=
  ∀ G8 : Int32 → Int32 → Int32 → S0 → Prop,
  ∀ G61 : Int32 → Int32 → Int32 → S0 → Prop,
  ∀ G123 : Int32 → Int32 → S0 → Prop,
  (∀ (x1 x2 x5 : Int32) (σ : S0),
    vp_in (x1 + 1) 17 ∧
    (((σ 20 (x1 + 1).toNatClampNeg) ≤ x5 →
      vp_in x2 17 ∧
      (∀ v2 : Int32, v2 = (σ 23 x2.toNatClampNeg) →
      G61 x1 x2 v2 σ)) ∧
    (¬ (σ 20 (x1 + 1).toNatClampNeg) ≤ x5 →
      vp_in x5 166 ∧
      vp_in (σ 18 x5.toNatClampNeg) 166 ∧
      (∀ σ3 : S0, σ3 = st σ 24 (σ 18 x5.toNatClampNeg).toNatClampNeg 0 →
      vp_in x5 166 ∧
      vp_in (σ3 18 x5.toNatClampNeg) 166 ∧
      (∀ σ4 : S0, σ4 = st σ3 25 (σ3 18 x5.toNatClampNeg).toNatClampNeg 0 →
      G8 x1 x2 (x5 + 1) σ4)))) →
    G8 x1 x2 x5 σ) →
  (∀ (x1 x2 x5 : Int32) (σ : S0),
    vp_in (x2 + 1) 17 ∧
    (((σ 23 (x2 + 1).toNatClampNeg) ≤ x5 →
      vp_in x1 17 ∧
      (∀ v5 : Int32, v5 = (σ 20 x1.toNatClampNeg) →
      G123 x1 v5 σ)) ∧
    (¬ (σ 23 (x2 + 1).toNatClampNeg) ≤ x5 →
      vp_in x5 406 ∧
      vp_in (σ 21 x5.toNatClampNeg) 166 ∧
      vp_in x5 406 ∧
      vp_in (σ 22 x5.toNatClampNeg) 166 ∧
      vp_in (σ 21 x5.toNatClampNeg) 166 ∧
      (∀ σ6 : S0, σ6 = st σ 24 (σ 21 x5.toNatClampNeg).toNatClampNeg ((σ 24 (σ 21 x5.toNatClampNeg).toNatClampNeg) + (σ 16 (σ 22 x5.toNatClampNeg).toNatClampNeg)) →
      vp_in x5 406 ∧
      vp_in (σ6 21 x5.toNatClampNeg) 166 ∧
      vp_in (σ6 21 x5.toNatClampNeg) 166 ∧
      (∀ σ7 : S0, σ7 = st σ6 25 (σ6 21 x5.toNatClampNeg).toNatClampNeg ((σ6 25 (σ6 21 x5.toNatClampNeg).toNatClampNeg) + 1) →
      G61 x1 x2 (x5 + 1) σ7)))) →
    G61 x1 x2 x5 σ) →
  (∀ (x1 x5 : Int32) (σ : S0),
    vp_in (x1 + 1) 17 ∧
    (((σ 20 (x1 + 1).toNatClampNeg) ≤ x5 →
      post σ) ∧
    (¬ (σ 20 (x1 + 1).toNatClampNeg) ≤ x5 →
      vp_in x5 166 ∧
      vp_in (σ 18 x5.toNatClampNeg) 166 ∧
      ((¬ (σ 25 (σ 18 x5.toNatClampNeg).toNatClampNeg) = 0 →
        G123 x1 (x5 + 1) σ) ∧
      ((σ 25 (σ 18 x5.toNatClampNeg).toNatClampNeg) = 0 →
        vp_in x5 166 ∧
        vp_in x5 166 ∧
        vp_in (σ 18 x5.toNatClampNeg) 166 ∧
        vp_in (σ 18 x5.toNatClampNeg) 166 ∧
        (∀ σ8 : S0, σ8 = st σ 24 (σ 18 x5.toNatClampNeg).toNatClampNeg (σ 16 (σ 18 x5.toNatClampNeg).toNatClampNeg) →
        vp_in x5 166 ∧
        vp_in (σ8 18 x5.toNatClampNeg) 166 ∧
        (∀ σ9 : S0, σ9 = st σ8 25 (σ8 18 x5.toNatClampNeg).toNatClampNeg 1 →
        G123 x1 (x5 + 1) σ9)))))) →
    G123 x1 x5 σ) →
  vp_in a1 17 ∧
  (∀ v1 : Int32, v1 = (σ 20 a1.toNatClampNeg) →
  G8 a1 a2 v1 σ)
/-- MatrixSheets$Order: private void arrange(int, int, int[], int[]) -/
def Sp_O_arrange_21_22 (a1 a2 : Int32) (σ : S0) (post : S0 → Prop) : Prop :=
  Sp_O_weigh_21_22 a1 a2 σ (fun (σ1 : S0) =>
  vp_in a1 17 ∧
  vp_in (a1 + 1) 17 ∧
  Sp_O_sort (σ1 20 a1.toNatClampNeg) (σ1 20 (a1 + 1).toNatClampNeg) σ1 (fun (σ2 : S0) =>
  vp_in (a1 + 1) 17 ∧
  Sp_O_numberPlaces a1 (σ2 20 (a1 + 1).toNatClampNeg) σ2 (fun (σ3 : S0) =>
  post σ3)))
/-- MatrixSheets$Order: private void runRound() -/
def Sp_O_runRound (σ : S0) (post : S0 → Prop) : Prop :=
  ∀ G2 : Int32 → S0 → Prop,
  ∀ G39 : Int32 → S0 → Prop,
  (∀ (x1 : Int32) (σ : S0),
    (((σ 0 9) ≤ x1 →
      (∀ v1 : Int32, v1 = ((σ 0 9) - 2) →
      G39 v1 σ)) ∧
    (¬ (σ 0 9) ≤ x1 →
      Sp_O_arrange_22_21 x1 (x1 - 1) σ (fun (σ2 : S0) =>
      G2 (x1 + 1) σ2))) →
    G2 x1 σ) →
  (∀ (x1 : Int32) (σ : S0),
    ((x1 < 0 →
      post σ) ∧
    (¬ x1 < 0 →
      Sp_O_arrange_21_22 x1 x1 σ (fun (σ3 : S0) =>
      G39 (x1 + (-1)) σ3))) →
    G39 x1 σ) →
  G2 1 σ
/-- MatrixSheets$Order: int make(MatrixSheets$Plan, int) -/
def Sp_O_make (a2 : Int32) (σ : S0) (post : Int32 → S0 → Prop) : Prop :=
  ∀ G42 : Int32 → Int32 → S0 → Prop,
  (∀ (x3 x4 : Int32) (σ : S0),
    (((σ 0 8) < x4 →
      Sp_O_takeBest σ (fun (σ9 : S0) =>
      post x3 σ9)) ∧
    (¬ (σ 0 8) < x4 →
      Sp_O_runRound σ (fun (σ10 : S0) =>
      Sp_O_countCrossings σ10 (fun (r12 : Int32) (σ11 : S0) =>
      vp_in x4 13 ∧
      (∀ σ13 : S0, σ13 = st σ11 17 x4.toNatClampNeg r12 →
      vp_in x4 13 ∧
      ((x3 ≤ (σ13 17 x4.toNatClampNeg) →
        G42 x3 (x4 + 1) σ13) ∧
      (¬ x3 ≤ (σ13 17 x4.toNatClampNeg) →
        vp_in x4 13 ∧
        (∀ v14 : Int32, v14 = (σ13 17 x4.toNatClampNeg) →
        Sp_O_keepBest σ13 (fun (σ15 : S0) =>
        G42 v14 (x4 + 1) σ15))))))))) →
    G42 x3 x4 σ) →
  (∀ σ1 : S0, σ1 = st σ 0 8 a2 →
  (∀ σ2 : S0, σ2 = st σ1 0 9 (σ1 0 5) →
  Sp_O_layMarks σ2 (fun (σ3 : S0) =>
  Sp_O_layPieces σ3 (fun (σ4 : S0) =>
  Sp_O_countCrossings σ4 (fun (r6 : Int32) (σ5 : S0) =>
  vp_in 0 13 ∧
  (∀ σ7 : S0, σ7 = st σ5 17 (0 : Int32).toNatClampNeg r6 →
  Sp_O_keepBest σ7 (fun (σ8 : S0) =>
  G42 r6 1 σ8)))))))
/-- MatrixSheets: public int draw(int) -/
def Sp_M_draw (a1 : Int32) (σ : S0) (post : Int32 → S0 → Prop) (px : Nat → S0 → Prop) : Prop :=
  ∀ G10 : S0 → Prop,
  (∀ (σ : S0),
    px 2 σ →
    G10  σ) →
  ((a1 < 0 →
    G10  σ) ∧
  (¬ a1 < 0 →
    ((a1 ≤ 12 →
      (∀ σ1 : S0, σ1 = st σ 0 0 0 →
      Sp_D_findMisfit 0 σ1 (fun (r3 : Int32) (σ2 : S0) =>
      ((r3 = (-1) →
        Sp_P_make σ2 (fun (σ4 : S0) =>
        (((σ4 0 7) ≤ 150 →
          Sp_O_make a1 σ4 (fun (r6 : Int32) (σ5 : S0) =>
          (∀ σ7 : S0, σ7 = st σ5 0 0 1 →
          post r6 σ7))) ∧
        (¬ (σ4 0 7) ≤ 150 →
          post (-3) σ4)))) ∧
      (¬ r3 = (-1) →
        post (-2) σ2))))) ∧
    (¬ a1 ≤ 12 →
      G10  σ))))
/-- MatrixSheets: private void needSheet() -/
def Sp_M_needSheet (σ : S0) (post : S0 → Prop) (px : Nat → S0 → Prop) : Prop :=
  ((¬ (σ 0 0) = 0 →
    post σ) ∧
  ((σ 0 0) = 0 →
    px 1 σ))
/-- MatrixSheets: public int crossings(int) -/
def Sp_M_crossings (a1 : Int32) (σ : S0) (post : Int32 → S0 → Prop) (px : Nat → S0 → Prop) : Prop :=
  ∀ G9 : Int32 → Int32 → S0 → Prop,
  ∀ G32 : Int32 → Int32 → S0 → Prop,
  (∀ (x1 t0 : Int32) (σ : S0),
    Sp_M_need t0 σ (fun (σ1 : S0) =>
    Sp_M_needSheet σ1 (fun (σ2 : S0) =>
    (((σ2 0 8) < x1 →
      G32 x1 0 σ2) ∧
    (¬ (σ2 0 8) < x1 →
      G32 x1 1 σ2))) px) px →
    G9 x1 t0 σ) →
  (∀ (x1 t0 : Int32) (σ : S0),
    Sp_M_need t0 σ (fun (σ3 : S0) =>
    vp_in x1 13 ∧
    post (σ3 17 x1.toNatClampNeg) σ3) px →
    G32 x1 t0 σ) →
  ((a1 < 0 →
    G9 a1 0 σ) ∧
  (¬ a1 < 0 →
    G9 a1 1 σ))
/-- MatrixSheets: public int at(int, int) -/
def Sp_M_at (a1 a2 : Int32) (σ : S0) (post : Int32 → S0 → Prop) (px : Nat → S0 → Prop) : Prop :=
  ∀ G18 : Int32 → Int32 → Int32 → S0 → Prop,
  (∀ (x1 x2 t0 : Int32) (σ : S0),
    Sp_M_need t0 σ (fun (σ2 : S0) =>
    Sp_M_needSheet σ2 (fun (σ3 : S0) =>
    vp_in x1 16 ∧
    (∀ v4 : Int32, v4 = (σ3 4 x1.toNatClampNeg) →
    Sp_M_has (σ3 0 4) v4 σ3 (fun (r6 : Int32) (σ5 : S0) =>
    ((¬ r6 = 0 →
      ((¬ x2 = 0 →
        vp_in v4 166 ∧
        post (σ5 16 v4.toNatClampNeg) σ5) ∧
      (x2 = 0 →
        vp_in v4 16 ∧
        post (σ5 10 v4.toNatClampNeg) σ5))) ∧
    (r6 = 0 →
      post (-1) σ5))))) px) px →
    G18 x1 x2 t0 σ) →
  Sp_M_needContext a1 σ (fun (σ1 : S0) =>
  ((a2 = 0 →
    G18 a1 a2 1 σ1) ∧
  (¬ a2 = 0 →
    ((¬ a2 = 1 →
      G18 a1 a2 0 σ1) ∧
    (a2 = 1 →
      G18 a1 a2 1 σ1))))) px
/-- MatrixSheets: public int links() -/
def Sp_M_links (σ : S0) (post : Int32 → S0 → Prop) (px : Nat → S0 → Prop) : Prop :=
  Sp_M_needSheet σ (fun (σ1 : S0) =>
  post (σ1 0 6) σ1) px
/-- MatrixSheets: public int link(int, int) -/
def Sp_M_link (a1 a2 : Int32) (σ : S0) (post : Int32 → S0 → Prop) (px : Nat → S0 → Prop) : Prop :=
  ∀ G13 : Int32 → Int32 → Int32 → S0 → Prop,
  ∀ G50 : Int32 → Int32 → Int32 → S0 → Prop,
  (∀ (x1 x2 t0 : Int32) (σ : S0),
    Sp_M_need t0 σ (fun (σ1 : S0) =>
    Sp_M_needSheet σ1 (fun (σ2 : S0) =>
    (((σ2 0 6) ≤ x1 →
      G50 x1 x2 0 σ2) ∧
    (¬ (σ2 0 6) ≤ x1 →
      Sp_P_bendsOf x1 σ2 (fun (r4 : Int32) (σ3 : S0) =>
      (((3 + r4) ≤ x2 →
        G50 x1 x2 0 σ3) ∧
      (¬ (3 + r4) ≤ x2 →
        G50 x1 x2 1 σ3)))))) px) px →
    G13 x1 x2 t0 σ) →
  (∀ (x1 x2 t0 : Int32) (σ : S0),
    Sp_M_need t0 σ (fun (σ5 : S0) =>
    (((x2 = 0 →
      vp_in x1 256 ∧
      post (σ5 11 x1.toNatClampNeg) σ5) ∧
    (x2 = 1 →
      vp_in x1 256 ∧
      post (σ5 12 x1.toNatClampNeg) σ5) ∧
    (x2 = 2 →
      Sp_P_bendsOf x1 σ5 (fun (r7 : Int32) (σ6 : S0) =>
      post r7 σ6))) ∧
    (¬ x2 = 0 ∧ ¬ x2 = 1 ∧ ¬ x2 = 2 →
      Sp_P_pointOf x1 (x2 - 2) σ5 (fun (r9 : Int32) (σ8 : S0) =>
      vp_in r9 166 ∧
      post (σ8 16 r9.toNatClampNeg) σ8)))) px →
    G50 x1 x2 t0 σ) →
  ((a1 < 0 →
    G13 a1 a2 0 σ) ∧
  (¬ a1 < 0 →
    ((a2 < 0 →
      G13 a1 a2 0 σ) ∧
    (¬ a2 < 0 →
      G13 a1 a2 1 σ))))
/-- java/lang/Integer: public static int bitCount(int) -/
def Sp_J_bitCount (a0 : Int32) (σ : S0) (post : Int32 → S0 → Prop) : Prop :=
  (∀ v1 : Int32, v1 = (a0 - (((a0.toUInt32 >>> (Int32.toUInt32 1 &&& Int32.toUInt32 31)).toInt32) &&& 1431655765)) →
  (∀ v2 : Int32, v2 = ((v1 &&& 858993459) + (((v1.toUInt32 >>> (Int32.toUInt32 2 &&& Int32.toUInt32 31)).toInt32) &&& 858993459)) →
  (∀ v3 : Int32, v3 = ((v2 + ((v2.toUInt32 >>> (Int32.toUInt32 4 &&& Int32.toUInt32 31)).toInt32)) &&& 252645135) →
  (∀ v4 : Int32, v4 = (v3 + ((v3.toUInt32 >>> (Int32.toUInt32 8 &&& Int32.toUInt32 31)).toInt32)) →
  (∀ v5 : Int32, v5 = (v4 + ((v4.toUInt32 >>> (Int32.toUInt32 16 &&& Int32.toUInt32 31)).toInt32)) →
  post (v5 &&& 63) σ)))))
/-- MatrixSheets: private int numbersOf(int) -/
def Sp_M_numbersOf (a1 : Int32) (σ : S0) (post : Int32 → S0 → Prop) : Prop :=
  Sp_P_bendsOf a1 σ (fun (r2 : Int32) (σ1 : S0) =>
  post (2 + (2 * (r2 + 2))) σ1)
/-- MatrixSheets: private int numberOfLinks(int) -/
def Sp_M_numberOfLinks (a1 : Int32) (σ : S0) (post : Int32 → S0 → Prop) : Prop :=
  ∀ G4 : Int32 → Int32 → S0 → Prop,
  ∀ G40 : Int32 → Int32 → S0 → Prop,
  (∀ (x2 x3 : Int32) (σ : S0),
    ((((σ 0 6) - 1) ≤ x3 →
      G40 x2 x3 σ) ∧
    (¬ ((σ 0 6) - 1) ≤ x3 →
      Sp_M_numbersOf x3 σ (fun (r2 : Int32) (σ1 : S0) =>
      ((x2 < r2 →
        G40 x2 x3 σ1) ∧
      (¬ x2 < r2 →
        Sp_M_numbersOf x3 σ1 (fun (r4 : Int32) (σ3 : S0) =>
        (∀ v5 : Int32, v5 = (x2 - r4) →
        G4 v5 (x3 + 1) σ3))))))) →
    G4 x2 x3 σ) →
  (∀ (x2 x3 : Int32) (σ : S0),
    ((¬ x2 = 0 →
      ((¬ x2 = 1 →
        (∀ v6 : Int32, v6 = ((x2 - 2) / 2) →
        ((¬ (x2 - x2 / 2 * 2) = 0 →
          vp_in x3 256 ∧
          vp_in (σ 11 x3.toNatClampNeg) 16 ∧
          post (16 * ((σ 10 (σ 11 x3.toNatClampNeg).toNatClampNeg) + v6)) σ) ∧
        ((x2 - x2 / 2 * 2) = 0 →
          Sp_P_pointOf x3 v6 σ (fun (r8 : Int32) (σ7 : S0) =>
          vp_in r8 166 ∧
          post (16 * (σ7 16 r8.toNatClampNeg)) σ7))))) ∧
      (x2 = 1 →
        Sp_P_bendsOf x3 σ (fun (r10 : Int32) (σ9 : S0) =>
        post (r10 + 2) σ9)))) ∧
    (x2 = 0 →
      post 2 σ)) →
    G40 x2 x3 σ) →
  G4 a1 0 σ
/-- MatrixSheets$Order: int groupAt(int) -/
def Sp_O_groupAt (a1 : Int32) (σ : S0) (post : Int32 → S0 → Prop) : Prop :=
  ∀ G4 : Int32 → Int32 → S0 → Prop,
  (∀ (x2 x3 : Int32) (σ : S0),
    (((σ 0 10) ≤ x3 →
      post 0 σ) ∧
    (¬ (σ 0 10) ≤ x3 →
      vp_in x3 166 ∧
      ((16 ≤ (σ 18 x3.toNatClampNeg) →
        G4 x2 (x3 + 1) σ) ∧
      (¬ 16 ≤ (σ 18 x3.toNatClampNeg) →
        ((¬ x2 = 0 →
          G4 (x2 + (-1)) (x3 + 1) σ) ∧
        (x2 = 0 →
          vp_in x3 166 ∧
          post (σ 18 x3.toNatClampNeg) σ)))))) →
    G4 x2 x3 σ) →
  G4 a1 0 σ
/-- MatrixSheets: private int numberOfGroups(int) -/
def Sp_M_numberOfGroups (a1 : Int32) (σ : S0) (post : Int32 → S0 → Prop) : Prop :=
  Sp_O_groupAt (a1 / 4) σ (fun (r2 : Int32) (σ1 : S0) =>
  ((((a1 - a1 / 4 * 4) = 0 →
    post 1 σ1) ∧
  ((a1 - a1 / 4 * 4) = 1 →
    post r2 σ1) ∧
  ((a1 - a1 / 4 * 4) = 2 →
    vp_in r2 166 ∧
    post (16 * (σ1 16 r2.toNatClampNeg)) σ1)) ∧
  (¬ (a1 - a1 / 4 * 4) = 0 ∧ ¬ (a1 - a1 / 4 * 4) = 1 ∧ ¬ (a1 - a1 / 4 * 4) = 2 →
    vp_in r2 16 ∧
    post (16 * (σ1 10 r2.toNatClampNeg)) σ1)))
/-- MatrixSheets: public int command(int) -/
def Sp_M_command (a1 : Int32) (σ : S0) (post : Int32 → S0 → Prop) (px : Nat → S0 → Prop) : Prop :=
  ∀ G10 : Int32 → Int32 → S0 → Prop,
  ∀ G63 : Int32 → Int32 → Int32 → Int32 → S0 → Prop,
  (∀ (x1 t0 : Int32) (σ : S0),
    Sp_M_need t0 σ (fun (σ1 : S0) =>
    Sp_M_needSheet σ1 (fun (σ2 : S0) =>
    Sp_J_bitCount (σ2 0 4) σ2 (fun (r4 : Int32) (σ3 : S0) =>
    (∀ v5 : Int32, v5 = (4 * r4) →
    (∀ v6 : Int32, v6 = ((v5 + (6 * (σ3 0 6))) + (2 * (σ3 0 7))) →
    ((v6 ≤ x1 →
      G63 x1 v5 v6 0 σ3) ∧
    (¬ v6 ≤ x1 →
      G63 x1 v5 v6 1 σ3)))))) px) px →
    G10 x1 t0 σ) →
  (∀ (x1 x2 x3 t0 : Int32) (σ : S0),
    Sp_M_need t0 σ (fun (σ7 : S0) =>
    ((¬ x1 = (-1) →
      ((x2 ≤ x1 →
        Sp_M_numberOfLinks (x1 - x2) σ7 (fun (r9 : Int32) (σ8 : S0) =>
        post r9 σ8)) ∧
      (¬ x2 ≤ x1 →
        Sp_M_numberOfGroups x1 σ7 (fun (r11 : Int32) (σ10 : S0) =>
        post r11 σ10)))) ∧
    (x1 = (-1) →
      post x3 σ7))) px →
    G63 x1 x2 x3 t0 σ) →
  ((a1 < (-1) →
    G10 a1 0 σ) ∧
  (¬ a1 < (-1) →
    G10 a1 1 σ))
/-- MatrixSheets: public int count(int) -/
def Sp_M_count (a1 : Int32) (σ : S0) (post : Int32 → S0 → Prop) (px : Nat → S0 → Prop) : Prop :=
  (((a1 = 0 →
    Sp_J_bitCount (σ 0 1) σ (fun (r2 : Int32) (σ1 : S0) =>
    post r2 σ1)) ∧
  (a1 = 1 →
    post (σ 0 3) σ) ∧
  (a1 = 2 →
    Sp_D_leadersOf (σ 0 1) σ (fun (r4 : Int32) (σ3 : S0) =>
    Sp_J_bitCount r4 σ3 (fun (r6 : Int32) (σ5 : S0) =>
    post r6 σ5))) ∧
  (a1 = 3 →
    (((σ 0 0) = 0 →
      post 0 σ) ∧
    (¬ (σ 0 0) = 0 →
      post (σ 0 5) σ))) ∧
  (a1 = 4 →
    (((σ 0 0) = 0 →
      post 0 σ) ∧
    (¬ (σ 0 0) = 0 →
      post (σ 0 7) σ)))) ∧
  (¬ a1 = 0 ∧ ¬ a1 = 1 ∧ ¬ a1 = 2 ∧ ¬ a1 = 3 ∧ ¬ a1 = 4 →
    px 0 σ))
