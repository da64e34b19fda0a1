/-- MatrixSheetsModel: public int thrown() -/
def Sp_R_thrown (σ : S0) (post : Int32 → S0 → Prop) : Prop :=
  post (σ 0 0) σ
/-- MatrixSheetsModel: private static boolean in(int, int, int) -/
def Sp_R_in (a0 a1 a2 : Int32) (σ : S0) (post : Int32 → S0 → Prop) : Prop :=
  ((a0 < a1 →
    post 0 σ) ∧
  (¬ a0 < a1 →
    ((a2 < a0 →
      post 0 σ) ∧
    (¬ a2 < a0 →
      post 1 σ))))
/-- MatrixSheetsModel: private static boolean isContext(int) -/
def Sp_R_isContext (a0 : Int32) (σ : S0) (post : Int32 → S0 → Prop) : Prop :=
  Sp_R_in a0 0 15 σ (fun (r2 : Int32) (σ1 : S0) =>
  bo r2 ∧
  post r2 σ1)
/-- MatrixSheetsModel: private boolean throwing(boolean, boolean) -/
def Sp_R_throwing (a1 a2 : Int32) (σ : S0) (post : Int32 → S0 → Prop) : Prop :=
  ∀ G18 : Int32 → S0 → Prop,
  (∀ (t1 : Int32) (σ : S0),
    (∀ σ1 : S0, σ1 = st σ 0 0 t1 →
    (((σ1 0 0) ≤ 0 →
      post 0 σ1) ∧
    (¬ (σ1 0 0) ≤ 0 →
      post 1 σ1))) →
    G18 t1 σ) →
  ((a1 = 0 →
    ((a2 = 0 →
      G18 0 σ) ∧
    (¬ a2 = 0 →
      G18 2 σ))) ∧
  (¬ a1 = 0 →
    G18 1 σ))
/-- MatrixSheetsModel: private void close(boolean[]) -/
def Sp_R_close_6 (σ : S0) (post : S0 → Prop) : Prop :=
  ∀ G2 : Int32 → S0 → Prop,
  ∀ G10 : Int32 → Int32 → S0 → Prop,
  (∀ (x2 : Int32) (σ : S0),
    ((16 ≤ x2 →
      post σ) ∧
    (¬ 16 ≤ x2 →
      G10 x2 0 σ)) →
    G2 x2 σ) →
  (∀ (x2 x3 : Int32) (σ : S0),
    ((256 ≤ x3 →
      G2 (x2 + 1) σ) ∧
    (¬ 256 ≤ x3 →
      vp_in x3 256 ∧
      ((¬ (σ 6 x3.toNatClampNeg) = 0 →
        vp_in x3 256 ∧
        (∀ σ1 : S0, σ1 = st σ 6 x3.toNatClampNeg 1 →
        G10 x2 (x3 + 1) σ1)) ∧
      ((σ 6 x3.toNatClampNeg) = 0 →
        vp_in (((x3 / 16) * 16) + x2) 256 ∧
        (((σ 6 (((x3 / 16) * 16) + x2).toNatClampNeg) = 0 →
          vp_in x3 256 ∧
          (∀ σ2 : S0, σ2 = st σ 6 x3.toNatClampNeg 0 →
          G10 x2 (x3 + 1) σ2)) ∧
        (¬ (σ 6 (((x3 / 16) * 16) + x2).toNatClampNeg) = 0 →
          vp_in ((16 * x2) + (x3 - x3 / 16 * 16)) 256 ∧
          (((σ 6 ((16 * x2) + (x3 - x3 / 16 * 16)).toNatClampNeg) = 0 →
            vp_in x3 256 ∧
            (∀ σ3 : S0, σ3 = st σ 6 x3.toNatClampNeg 0 →
            G10 x2 (x3 + 1) σ3)) ∧
          (¬ (σ 6 ((16 * x2) + (x3 - x3 / 16 * 16)).toNatClampNeg) = 0 →
            vp_in x3 256 ∧
            (∀ σ4 : S0, σ4 = st σ 6 x3.toNatClampNeg 1 →
            G10 x2 (x3 + 1) σ4))))))))) →
    G10 x2 x3 σ) →
  G2 0 σ
/-- MatrixSheetsModel: private void findOver() -/
def Sp_R_findOver (σ : S0) (post : S0 → Prop) : Prop :=
  ∀ G2 : Int32 → S0 → Prop,
  ∀ G24 : Int32 → S0 → Prop,
  (∀ (x1 : Int32) (σ : S0),
    ((256 ≤ x1 →
      G24 0 σ) ∧
    (¬ 256 ≤ x1 →
      vp_in x1 256 ∧
      (∀ σ1 : S0, σ1 = st σ 6 x1.toNatClampNeg 0 →
      G2 (x1 + 1) σ1))) →
    G2 x1 σ) →
  (∀ (x1 : Int32) (σ : S0),
    ((256 ≤ x1 →
      Sp_R_close_6 σ (fun (σ2 : S0) =>
      post σ2)) ∧
    (¬ 256 ≤ x1 →
      vp_in x1 256 ∧
      (((σ 1 x1.toNatClampNeg) = 0 →
        G24 (x1 + 1) σ) ∧
      (¬ (σ 1 x1.toNatClampNeg) = 0 →
        vp_in (x1 / 16) 16 ∧
        vp_in (x1 - x1 / 16 * 16) 16 ∧
        vp_in ((16 * (σ 2 (x1 / 16).toNatClampNeg)) + (σ 2 (x1 - x1 / 16 * 16).toNatClampNeg)) 256 ∧
        (∀ σ3 : S0, σ3 = st σ 6 ((16 * (σ 2 (x1 / 16).toNatClampNeg)) + (σ 2 (x1 - x1 / 16 * 16).toNatClampNeg)).toNatClampNeg 1 →
        G24 (x1 + 1) σ3))))) →
    G24 x1 σ) →
  G2 0 σ
/-- MatrixSheetsModel: private boolean isOver(int, int) -/
def Sp_R_isOver (a1 a2 : Int32) (σ : S0) (post : Int32 → S0 → Prop) : Prop :=
  Sp_R_findOver σ (fun (σ1 : S0) =>
  vp_in a1 16 ∧
  vp_in a2 16 ∧
  vp_in ((16 * (σ1 2 a1.toNatClampNeg)) + (σ1 2 a2.toNatClampNeg)) 256 ∧
  bo (σ1 6 ((16 * (σ1 2 a1.toNatClampNeg)) + (σ1 2 a2.toNatClampNeg)).toNatClampNeg) ∧
  post (σ1 6 ((16 * (σ1 2 a1.toNatClampNeg)) + (σ1 2 a2.toNatClampNeg)).toNatClampNeg) σ1)
/-- MatrixSheetsModel: private void name(int, int) -/
def Sp_R_name (a1 a2 : Int32) (σ : S0) (post : S0 → Prop) : Prop :=
  vp_in a1 16 ∧
  (∀ σ1 : S0, σ1 = st σ 5 a1.toNatClampNeg 1 →
  vp_in a2 16 ∧
  (∀ σ2 : S0, σ2 = st σ1 5 a2.toNatClampNeg 1 →
  (∀ σ3 : S0, σ3 = st σ2 0 1 0 →
  post σ3)))
/-- MatrixSheetsModel: public int above(int, int) -/
def Sp_R_above (a1 a2 : Int32) (σ : S0) (post : Int32 → S0 → Prop) : Prop :=
  ∀ G20 : Int32 → Int32 → Int32 → S0 → Prop,
  (∀ (x1 x2 t1 : Int32) (σ : S0),
    Sp_R_throwing t1 0 σ (fun (r6 : Int32) (σ5 : S0) =>
    ((r6 = 0 →
      vp_in ((16 * x1) + x2) 256 ∧
      (((σ5 1 ((16 * x1) + x2).toNatClampNeg) = 0 →
        vp_in x1 16 ∧
        vp_in x2 16 ∧
        (((σ5 2 x1.toNatClampNeg) = (σ5 2 x2.toNatClampNeg) →
          post (-1) σ5) ∧
        (¬ (σ5 2 x1.toNatClampNeg) = (σ5 2 x2.toNatClampNeg) →
          Sp_R_isOver x2 x1 σ5 (fun (r8 : Int32) (σ7 : S0) =>
          ((r8 = 0 →
            vp_in ((16 * x1) + x2) 256 ∧
            (∀ σ9 : S0, σ9 = st σ7 1 ((16 * x1) + x2).toNatClampNeg 1 →
            Sp_R_name x1 x2 σ9 (fun (σ10 : S0) =>
            post 1 σ10))) ∧
          (¬ r8 = 0 →
            post (-1) σ7)))))) ∧
      (¬ (σ5 1 ((16 * x1) + x2).toNatClampNeg) = 0 →
        post 0 σ5))) ∧
    (¬ r6 = 0 →
      post 0 σ5))) →
    G20 x1 x2 t1 σ) →
  Sp_R_isContext a1 σ (fun (r2 : Int32) (σ1 : S0) =>
  ((r2 = 0 →
    G20 a1 a2 1 σ1) ∧
  (¬ r2 = 0 →
    Sp_R_isContext a2 σ1 (fun (r4 : Int32) (σ3 : S0) =>
    ((¬ r4 = 0 →
      G20 a1 a2 0 σ3) ∧
    (r4 = 0 →
      G20 a1 a2 1 σ3))))))
/-- MatrixSheetsModel: public int same(int, int) -/
def Sp_R_same (a1 a2 : Int32) (σ : S0) (post : Int32 → S0 → Prop) : Prop :=
  ∀ G20 : Int32 → Int32 → Int32 → S0 → Prop,
  ∀ G93 : Int32 → Int32 → Int32 → Int32 → Int32 → S0 → Prop,
  ∀ G98 : Int32 → Int32 → Int32 → Int32 → Int32 → Int32 → S0 → Prop,
  ∀ G128 : Int32 → Int32 → Int32 → Int32 → Int32 → Int32 → S0 → Prop,
  (∀ (x1 x2 t1 : Int32) (σ : S0),
    Sp_R_throwing t1 0 σ (fun (r6 : Int32) (σ5 : S0) =>
    ((r6 = 0 →
      vp_in x1 16 ∧
      vp_in x2 16 ∧
      ((¬ (σ5 2 x1.toNatClampNeg) = (σ5 2 x2.toNatClampNeg) →
        Sp_R_isOver x1 x2 σ5 (fun (r8 : Int32) (σ7 : S0) =>
        ((¬ r8 = 0 →
          post (-1) σ7) ∧
        (r8 = 0 →
          Sp_R_isOver x2 x1 σ7 (fun (r10 : Int32) (σ9 : S0) =>
          ((r10 = 0 →
            vp_in x1 16 ∧
            (∀ v11 : Int32, v11 = (σ9 2 x1.toNatClampNeg) →
            vp_in x2 16 ∧
            (∀ v12 : Int32, v12 = (σ9 2 x2.toNatClampNeg) →
            ((v12 ≤ v11 →
              G93 x1 x2 v11 v12 v12 σ9) ∧
            (¬ v12 ≤ v11 →
              G93 x1 x2 v11 v12 v11 σ9))))) ∧
          (¬ r10 = 0 →
            post (-1) σ9))))))) ∧
      ((σ5 2 x1.toNatClampNeg) = (σ5 2 x2.toNatClampNeg) →
        post 0 σ5))) ∧
    (¬ r6 = 0 →
      post 0 σ5))) →
    G20 x1 x2 t1 σ) →
  (∀ (x1 x2 x3 x4 t0 : Int32) (σ : S0),
    G98 x1 x2 x3 x4 t0 0 σ →
    G93 x1 x2 x3 x4 t0 σ) →
  (∀ (x1 x2 x3 x4 x5 x6 : Int32) (σ : S0),
    ((16 ≤ x6 →
      Sp_R_name x1 x2 σ (fun (σ13 : S0) =>
      post 1 σ13)) ∧
    (¬ 16 ≤ x6 →
      vp_in x6 16 ∧
      (((σ 2 x6.toNatClampNeg) = x3 →
        G128 x1 x2 x3 x4 x5 x6 σ) ∧
      (¬ (σ 2 x6.toNatClampNeg) = x3 →
        vp_in x6 16 ∧
        ((¬ (σ 2 x6.toNatClampNeg) = x4 →
          G98 x1 x2 x3 x4 x5 (x6 + 1) σ) ∧
        ((σ 2 x6.toNatClampNeg) = x4 →
          G128 x1 x2 x3 x4 x5 x6 σ)))))) →
    G98 x1 x2 x3 x4 x5 x6 σ) →
  (∀ (x1 x2 x3 x4 x5 x6 : Int32) (σ : S0),
    vp_in x6 16 ∧
    (∀ σ14 : S0, σ14 = st σ 2 x6.toNatClampNeg x5 →
    G98 x1 x2 x3 x4 x5 (x6 + 1) σ14) →
    G128 x1 x2 x3 x4 x5 x6 σ) →
  Sp_R_isContext a1 σ (fun (r2 : Int32) (σ1 : S0) =>
  ((r2 = 0 →
    G20 a1 a2 1 σ1) ∧
  (¬ r2 = 0 →
    Sp_R_isContext a2 σ1 (fun (r4 : Int32) (σ3 : S0) =>
    ((¬ r4 = 0 →
      G20 a1 a2 0 σ3) ∧
    (r4 = 0 →
      G20 a1 a2 1 σ3))))))
/-- MatrixSheetsModel: public int phase(int, int) -/
def Sp_R_phase (a1 a2 : Int32) (σ : S0) (post : Int32 → S0 → Prop) : Prop :=
  ∀ G13 : Int32 → Int32 → Int32 → S0 → Prop,
  ∀ G27 : Int32 → Int32 → Int32 → Int32 → S0 → Prop,
  (∀ (x1 x2 t1 : Int32) (σ : S0),
    Sp_R_in x2 (-1) 5 σ (fun (r4 : Int32) (σ3 : S0) =>
    ((¬ r4 = 0 →
      G27 x1 x2 t1 0 σ3) ∧
    (r4 = 0 →
      G27 x1 x2 t1 1 σ3))) →
    G13 x1 x2 t1 σ) →
  (∀ (x1 x2 t1 t2 : Int32) (σ : S0),
    Sp_R_throwing t1 t2 σ (fun (r6 : Int32) (σ5 : S0) =>
    ((r6 = 0 →
      vp_in x1 16 ∧
      (∀ v7 : Int32, v7 = (σ5 3 x1.toNatClampNeg) →
      vp_in x1 16 ∧
      (∀ σ8 : S0, σ8 = st σ5 3 x1.toNatClampNeg x2 →
      Sp_R_name x1 x1 σ8 (fun (σ9 : S0) =>
      post v7 σ9)))) ∧
    (¬ r6 = 0 →
      post 0 σ5))) →
    G27 x1 x2 t1 t2 σ) →
  Sp_R_isContext a1 σ (fun (r2 : Int32) (σ1 : S0) =>
  ((¬ r2 = 0 →
    G13 a1 a2 0 σ1) ∧
  (r2 = 0 →
    G13 a1 a2 1 σ1)))
/-- MatrixSheetsModel: public boolean hide(int, boolean) -/
def Sp_R_hide (a1 a2 : Int32) (σ : S0) (post : Int32 → S0 → Prop) : Prop :=
  ∀ G13 : Int32 → Int32 → Int32 → S0 → Prop,
  ∀ G65 : Int32 → Int32 → Int32 → Int32 → S0 → Prop,
  (∀ (x1 x2 t1 : Int32) (σ : S0),
    Sp_R_throwing t1 0 σ (fun (r4 : Int32) (σ3 : S0) =>
    ((r4 = 0 →
      vp_in x1 16 ∧
      (∀ v5 : Int32, v5 = (σ3 4 x1.toNatClampNeg) →
      vp_in x1 16 ∧
      bo x2 ∧
      (∀ σ6 : S0, σ6 = st σ3 4 x1.toNatClampNeg x2 →
      (∀ σ7 : S0, σ7 = st σ6 0 1 0 →
      vp_in x1 16 ∧
      ((¬ (σ7 5 x1.toNatClampNeg) = 0 →
        G65 x2 v5 x1 1 σ7) ∧
      ((σ7 5 x1.toNatClampNeg) = 0 →
        ((v5 = x2 →
          G65 x2 v5 x1 0 σ7) ∧
        (¬ v5 = x2 →
          G65 x2 v5 x1 1 σ7)))))))) ∧
    (¬ r4 = 0 →
      post 0 σ3))) →
    G13 x1 x2 t1 σ) →
  (∀ (x2 x3 t1 t2 : Int32) (σ : S0),
    vp_in t1 16 ∧
    bo t2 ∧
    (∀ σ8 : S0, σ8 = st σ 5 t1.toNatClampNeg t2 →
    ((x3 = x2 →
      post 0 σ8) ∧
    (¬ x3 = x2 →
      post 1 σ8))) →
    G65 x2 x3 t1 t2 σ) →
  Sp_R_isContext a1 σ (fun (r2 : Int32) (σ1 : S0) =>
  ((¬ r2 = 0 →
    G13 a1 a2 0 σ1) ∧
  (r2 = 0 →
    G13 a1 a2 1 σ1)))
/-- MatrixSheetsModel: public int group(int) -/
def Sp_R_group (a1 : Int32) (σ : S0) (post : Int32 → S0 → Prop) : Prop :=
  ∀ G13 : Int32 → Int32 → S0 → Prop,
  (∀ (x1 t1 : Int32) (σ : S0),
    Sp_R_throwing t1 0 σ (fun (r4 : Int32) (σ3 : S0) =>
    ((r4 = 0 →
      vp_in x1 16 ∧
      post (σ3 2 x1.toNatClampNeg) σ3) ∧
    (¬ r4 = 0 →
      post 0 σ3))) →
    G13 x1 t1 σ) →
  Sp_R_isContext a1 σ (fun (r2 : Int32) (σ1 : S0) =>
  ((¬ r2 = 0 →
    G13 a1 0 σ1) ∧
  (r2 = 0 →
    G13 a1 1 σ1)))
/-- MatrixSheetsModel: private int phaseOf(int) -/
def Sp_R_phaseOf (a1 : Int32) (σ : S0) (post : Int32 → S0 → Prop) : Prop :=
  ∀ G4 : Int32 → Int32 → Int32 → S0 → Prop,
  ∀ G43 : Int32 → Int32 → S0 → Prop,
  (∀ (x1 x2 x3 : Int32) (σ : S0),
    ((16 ≤ x3 →
      post x2 σ) ∧
    (¬ 16 ≤ x3 →
      vp_in x3 16 ∧
      ((¬ (σ 2 x3.toNatClampNeg) = x1 →
        G4 x1 x2 (x3 + 1) σ) ∧
      ((σ 2 x3.toNatClampNeg) = x1 →
        vp_in x3 16 ∧
        (((σ 3 x3.toNatClampNeg) < 0 →
          G4 x1 x2 (x3 + 1) σ) ∧
        (¬ (σ 3 x3.toNatClampNeg) < 0 →
          ((x2 < 0 →
            G43 x1 x3 σ) ∧
          (¬ x2 < 0 →
            vp_in x3 16 ∧
            ((x2 ≤ (σ 3 x3.toNatClampNeg) →
              G4 x1 x2 (x3 + 1) σ) ∧
            (¬ x2 ≤ (σ 3 x3.toNatClampNeg) →
              G43 x1 x3 σ)))))))))) →
    G4 x1 x2 x3 σ) →
  (∀ (x1 x3 : Int32) (σ : S0),
    vp_in x3 16 ∧
    (∀ v1 : Int32, v1 = (σ 3 x3.toNatClampNeg) →
    G4 x1 v1 (x3 + 1) σ) →
    G43 x1 x3 σ) →
  G4 a1 (-1) 0 σ
/-- MatrixSheetsModel: private boolean misfits(int, int) -/
def Sp_R_misfits (a1 a2 : Int32) (σ : S0) (post : Int32 → S0 → Prop) : Prop :=
  vp_in ((16 * a1) + a2) 256 ∧
  (((σ 6 ((16 * a1) + a2).toNatClampNeg) = 0 →
    post 0 σ) ∧
  (¬ (σ 6 ((16 * a1) + a2).toNatClampNeg) = 0 →
    Sp_R_phaseOf a2 σ (fun (r2 : Int32) (σ1 : S0) =>
    ((r2 < 0 →
      post 0 σ1) ∧
    (¬ r2 < 0 →
      Sp_R_phaseOf a1 σ1 (fun (r4 : Int32) (σ3 : S0) =>
      Sp_R_phaseOf a2 σ3 (fun (r6 : Int32) (σ5 : S0) =>
      ((r4 ≤ r6 →
        post 0 σ5) ∧
      (¬ r4 ≤ r6 →
        post 1 σ5)))))))))
/-- MatrixSheetsModel: public int misfit(int, int) -/
def Sp_R_misfit (a1 a2 : Int32) (σ : S0) (post : Int32 → S0 → Prop) : Prop :=
  ∀ G19 : Int32 → Int32 → Int32 → S0 → Prop,
  ∀ G37 : Int32 → Int32 → Int32 → S0 → Prop,
  (∀ (x1 x2 t1 : Int32) (σ : S0),
    Sp_R_throwing t1 0 σ (fun (r4 : Int32) (σ3 : S0) =>
    ((r4 = 0 →
      Sp_R_findOver σ3 (fun (σ5 : S0) =>
      G37 x2 x1 0 σ5)) ∧
    (¬ r4 = 0 →
      post 0 σ3))) →
    G19 x1 x2 t1 σ) →
  (∀ (x2 x3 x4 : Int32) (σ : S0),
    ((256 ≤ x4 →
      post (-1) σ) ∧
    (¬ 256 ≤ x4 →
      Sp_R_misfits (x4 / 16) (x4 - x4 / 16 * 16) σ (fun (r7 : Int32) (σ6 : S0) =>
      ((¬ r7 = 0 →
        ((¬ x3 = 0 →
          G37 x2 (x3 + (-1)) (x4 + 1) σ6) ∧
        (x3 = 0 →
          ((¬ x2 = 0 →
            post (x4 - x4 / 16 * 16) σ6) ∧
          (x2 = 0 →
            post (x4 / 16) σ6))))) ∧
      (r7 = 0 →
        G37 x2 x3 (x4 + 1) σ6))))) →
    G37 x2 x3 x4 σ) →
  ((a1 < 0 →
    G19 a1 a2 1 σ) ∧
  (¬ a1 < 0 →
    Sp_R_in a2 0 1 σ (fun (r2 : Int32) (σ1 : S0) =>
    ((¬ r2 = 0 →
      G19 a1 a2 0 σ1) ∧
    (r2 = 0 →
      G19 a1 a2 1 σ1)))))
/-- MatrixSheetsModel: private boolean isHidden(int) -/
def Sp_R_isHidden (a1 : Int32) (σ : S0) (post : Int32 → S0 → Prop) : Prop :=
  ∀ G4 : Int32 → Int32 → Int32 → S0 → Prop,
  (∀ (x1 x2 x3 : Int32) (σ : S0),
    ((16 ≤ x3 →
      bo x2 ∧
      post x2 σ) ∧
    (¬ 16 ≤ x3 →
      ((x2 = 0 →
        G4 x1 0 (x3 + 1) σ) ∧
      (¬ x2 = 0 →
        vp_in x3 16 ∧
        ((¬ (σ 2 x3.toNatClampNeg) = x1 →
          G4 x1 1 (x3 + 1) σ) ∧
        ((σ 2 x3.toNatClampNeg) = x1 →
          vp_in x3 16 ∧
          (((σ 4 x3.toNatClampNeg) = 0 →
            G4 x1 0 (x3 + 1) σ) ∧
          (¬ (σ 4 x3.toNatClampNeg) = 0 →
            G4 x1 1 (x3 + 1) σ)))))))) →
    G4 x1 x2 x3 σ) →
  G4 a1 1 0 σ
/-- MatrixSheetsModel: private boolean isThere(int) -/
def Sp_R_isThere (a1 : Int32) (σ : S0) (post : Int32 → S0 → Prop) : Prop :=
  ∀ G4 : Int32 → Int32 → Int32 → S0 → Prop,
  (∀ (x1 x2 x3 : Int32) (σ : S0),
    ((16 ≤ x3 →
      bo x2 ∧
      post x2 σ) ∧
    (¬ 16 ≤ x3 →
      ((¬ x2 = 0 →
        G4 x1 1 (x3 + 1) σ) ∧
      (x2 = 0 →
        vp_in x3 16 ∧
        ((¬ (σ 2 x3.toNatClampNeg) = x1 →
          G4 x1 0 (x3 + 1) σ) ∧
        ((σ 2 x3.toNatClampNeg) = x1 →
          vp_in x3 16 ∧
          (((σ 5 x3.toNatClampNeg) = 0 →
            G4 x1 0 (x3 + 1) σ) ∧
          (¬ (σ 5 x3.toNatClampNeg) = 0 →
            G4 x1 1 (x3 + 1) σ)))))))) →
    G4 x1 x2 x3 σ) →
  G4 a1 0 0 σ
/-- MatrixSheetsModel: private boolean isDrawn(int) -/
def Sp_R_isDrawn (a1 : Int32) (σ : S0) (post : Int32 → S0 → Prop) : Prop :=
  vp_in a1 16 ∧
  ((¬ (σ 2 a1.toNatClampNeg) = a1 →
    post 0 σ) ∧
  ((σ 2 a1.toNatClampNeg) = a1 →
    Sp_R_isThere a1 σ (fun (r2 : Int32) (σ1 : S0) =>
    ((r2 = 0 →
      post 0 σ1) ∧
    (¬ r2 = 0 →
      Sp_R_isHidden a1 σ1 (fun (r4 : Int32) (σ3 : S0) =>
      ((¬ r4 = 0 →
        post 0 σ3) ∧
      (r4 = 0 →
        post 1 σ3))))))))
/-- MatrixSheetsModel: private void findLinks() -/
def Sp_R_findLinks (σ : S0) (post : S0 → Prop) : Prop :=
  ∀ G2 : Int32 → S0 → Prop,
  ∀ G24 : Int32 → S0 → Prop,
  ∀ G76 : Int32 → S0 → Prop,
  ∀ G105 : Int32 → Int32 → S0 → Prop,
  ∀ G180 : Int32 → S0 → Prop,
  (∀ (x1 : Int32) (σ : S0),
    ((256 ≤ x1 →
      G24 0 σ) ∧
    (¬ 256 ≤ x1 →
      vp_in x1 256 ∧
      (∀ σ1 : S0, σ1 = st σ 7 x1.toNatClampNeg 0 →
      G2 (x1 + 1) σ1))) →
    G2 x1 σ) →
  (∀ (x1 : Int32) (σ : S0),
    ((256 ≤ x1 →
      G76 0 σ) ∧
    (¬ 256 ≤ x1 →
      vp_in x1 256 ∧
      (((σ 1 x1.toNatClampNeg) = 0 →
        G24 (x1 + 1) σ) ∧
      (¬ (σ 1 x1.toNatClampNeg) = 0 →
        vp_in (x1 / 16) 16 ∧
        vp_in (x1 - x1 / 16 * 16) 16 ∧
        vp_in ((16 * (σ 2 (x1 / 16).toNatClampNeg)) + (σ 2 (x1 - x1 / 16 * 16).toNatClampNeg)) 256 ∧
        (∀ σ2 : S0, σ2 = st σ 7 ((16 * (σ 2 (x1 / 16).toNatClampNeg)) + (σ 2 (x1 - x1 / 16 * 16).toNatClampNeg)).toNatClampNeg 1 →
        G24 (x1 + 1) σ2))))) →
    G24 x1 σ) →
  (∀ (x1 : Int32) (σ : S0),
    ((16 ≤ x1 →
      G180 0 σ) ∧
    (¬ 16 ≤ x1 →
      vp_in x1 16 ∧
      ((¬ (σ 2 x1.toNatClampNeg) = x1 →
        G76 (x1 + 1) σ) ∧
      ((σ 2 x1.toNatClampNeg) = x1 →
        Sp_R_isHidden x1 σ (fun (r4 : Int32) (σ3 : S0) =>
        ((¬ r4 = 0 →
          G105 x1 0 σ3) ∧
        (r4 = 0 →
          G76 (x1 + 1) σ3))))))) →
    G76 x1 σ) →
  (∀ (x1 x2 : Int32) (σ : S0),
    ((256 ≤ x2 →
      G76 (x1 + 1) σ) ∧
    (¬ 256 ≤ x2 →
      vp_in x2 256 ∧
      ((¬ (σ 7 x2.toNatClampNeg) = 0 →
        vp_in x2 256 ∧
        (∀ σ13 : S0, σ13 = st σ 7 x2.toNatClampNeg 1 →
        G105 x1 (x2 + 1) σ13)) ∧
      ((σ 7 x2.toNatClampNeg) = 0 →
        vp_in (((x2 / 16) * 16) + x1) 256 ∧
        (((σ 7 (((x2 / 16) * 16) + x1).toNatClampNeg) = 0 →
          vp_in x2 256 ∧
          (∀ σ14 : S0, σ14 = st σ 7 x2.toNatClampNeg 0 →
          G105 x1 (x2 + 1) σ14)) ∧
        (¬ (σ 7 (((x2 / 16) * 16) + x1).toNatClampNeg) = 0 →
          vp_in ((16 * x1) + (x2 - x2 / 16 * 16)) 256 ∧
          (((σ 7 ((16 * x1) + (x2 - x2 / 16 * 16)).toNatClampNeg) = 0 →
            vp_in x2 256 ∧
            (∀ σ15 : S0, σ15 = st σ 7 x2.toNatClampNeg 0 →
            G105 x1 (x2 + 1) σ15)) ∧
          (¬ (σ 7 ((16 * x1) + (x2 - x2 / 16 * 16)).toNatClampNeg) = 0 →
            vp_in x2 256 ∧
            (∀ σ16 : S0, σ16 = st σ 7 x2.toNatClampNeg 1 →
            G105 x1 (x2 + 1) σ16))))))))) →
    G105 x1 x2 σ) →
  (∀ (x1 : Int32) (σ : S0),
    ((256 ≤ x1 →
      post σ) ∧
    (¬ 256 ≤ x1 →
      vp_in x1 256 ∧
      (((σ 7 x1.toNatClampNeg) = 0 →
        vp_in x1 256 ∧
        (∀ σ5 : S0, σ5 = st σ 7 x1.toNatClampNeg 0 →
        G180 (x1 + 1) σ5)) ∧
      (¬ (σ 7 x1.toNatClampNeg) = 0 →
        Sp_R_isDrawn (x1 / 16) σ (fun (r7 : Int32) (σ6 : S0) =>
        ((r7 = 0 →
          vp_in x1 256 ∧
          (∀ σ8 : S0, σ8 = st σ6 7 x1.toNatClampNeg 0 →
          G180 (x1 + 1) σ8)) ∧
        (¬ r7 = 0 →
          Sp_R_isDrawn (x1 - x1 / 16 * 16) σ6 (fun (r10 : Int32) (σ9 : S0) =>
          ((r10 = 0 →
            vp_in x1 256 ∧
            (∀ σ11 : S0, σ11 = st σ9 7 x1.toNatClampNeg 0 →
            G180 (x1 + 1) σ11)) ∧
          (¬ r10 = 0 →
            vp_in x1 256 ∧
            (∀ σ12 : S0, σ12 = st σ9 7 x1.toNatClampNeg 1 →
            G180 (x1 + 1) σ12))))))))))) →
    G180 x1 σ) →
  G2 0 σ
/-- MatrixSheetsModel: private int rowOf(int) -/
def Sp_R_rowOf (a1 : Int32) (σ : S0) (post : Int32 → S0 → Prop) : Prop :=
  ∀ G4 : Int32 → Int32 → Int32 → S0 → Prop,
  ∀ G66 : Int32 → Int32 → Int32 → Int32 → S0 → Prop,
  (∀ (x1 x2 x3 : Int32) (σ : S0),
    ((16 ≤ x3 →
      post x2 σ) ∧
    (¬ 16 ≤ x3 →
      ((x3 = x1 →
        G4 x1 x2 (x3 + 1) σ) ∧
      (¬ x3 = x1 →
        Sp_R_isDrawn x3 σ (fun (r2 : Int32) (σ1 : S0) =>
        ((¬ r2 = 0 →
          vp_in ((16 * x3) + x1) 256 ∧
          ((¬ (σ1 7 ((16 * x3) + x1).toNatClampNeg) = 0 →
            G66 x1 x2 x3 1 σ1) ∧
          ((σ1 7 ((16 * x3) + x1).toNatClampNeg) = 0 →
            Sp_R_phaseOf x3 σ1 (fun (r4 : Int32) (σ3 : S0) =>
            ((r4 < 0 →
              G66 x1 x2 x3 0 σ3) ∧
            (¬ r4 < 0 →
              Sp_R_phaseOf x3 σ3 (fun (r6 : Int32) (σ5 : S0) =>
              Sp_R_phaseOf x1 σ5 (fun (r8 : Int32) (σ7 : S0) =>
              ((r8 ≤ r6 →
                G66 x1 x2 x3 0 σ7) ∧
              (¬ r8 ≤ r6 →
                G66 x1 x2 x3 1 σ7)))))))))) ∧
        (r2 = 0 →
          G4 x1 x2 (x3 + 1) σ1))))))) →
    G4 x1 x2 x3 σ) →
  (∀ (x1 x2 x3 t0 : Int32) (σ : S0),
    ((t0 = 0 →
      G4 x1 x2 (x3 + 1) σ) ∧
    (¬ t0 = 0 →
      vp_in x3 166 ∧
      ((((σ 8 x3.toNatClampNeg) + 1) ≤ x2 →
        G4 x1 x2 (x3 + 1) σ) ∧
      (¬ ((σ 8 x3.toNatClampNeg) + 1) ≤ x2 →
        vp_in x3 166 ∧
        (∀ v9 : Int32, v9 = ((σ 8 x3.toNatClampNeg) + 1) →
        G4 x1 v9 (x3 + 1) σ))))) →
    G66 x1 x2 x3 t0 σ) →
  G4 a1 0 0 σ
/-- MatrixSheetsModel: private void findRows() -/
def Sp_R_findRows (σ : S0) (post : S0 → Prop) : Prop :=
  ∀ G2 : Int32 → S0 → Prop,
  ∀ G26 : Int32 → Int32 → Int32 → S0 → Prop,
  ∀ G35 : Int32 → S0 → Prop,
  ∀ G43 : Int32 → Int32 → S0 → Prop,
  (∀ (x1 : Int32) (σ : S0),
    ((16 ≤ x1 →
      G35 1 σ) ∧
    (¬ 16 ≤ x1 →
      Sp_R_isDrawn x1 σ (fun (r2 : Int32) (σ1 : S0) =>
      ((r2 = 0 →
        G26 x1 x1 (-1) σ1) ∧
      (¬ r2 = 0 →
        G26 x1 x1 0 σ1))))) →
    G2 x1 σ) →
  (∀ (x1 t1 t2 : Int32) (σ : S0),
    vp_in t1 166 ∧
    (∀ σ3 : S0, σ3 = st σ 8 t1.toNatClampNeg t2 →
    G2 (x1 + 1) σ3) →
    G26 x1 t1 t2 σ) →
  (∀ (x1 : Int32) (σ : S0),
    ((x1 = 0 →
      post σ) ∧
    (¬ x1 = 0 →
      G43 0 0 σ)) →
    G35 x1 σ) →
  (∀ (x1 x2 : Int32) (σ : S0),
    ((16 ≤ x2 →
      G35 x1 σ) ∧
    (¬ 16 ≤ x2 →
      Sp_R_isDrawn x2 σ (fun (r5 : Int32) (σ4 : S0) =>
      ((r5 = 0 →
        G43 x1 (x2 + 1) σ4) ∧
      (¬ r5 = 0 →
        Sp_R_rowOf x2 σ4 (fun (r7 : Int32) (σ6 : S0) =>
        vp_in x2 166 ∧
        ((¬ r7 = (σ6 8 x2.toNatClampNeg) →
          Sp_R_rowOf x2 σ6 (fun (r9 : Int32) (σ8 : S0) =>
          vp_in x2 166 ∧
          (∀ σ10 : S0, σ10 = st σ8 8 x2.toNatClampNeg r9 →
          G43 1 (x2 + 1) σ10))) ∧
        (r7 = (σ6 8 x2.toNatClampNeg) →
          G43 x1 (x2 + 1) σ6)))))))) →
    G43 x1 x2 σ) →
  G2 0 σ
/-- MatrixSheetsModel: private int bendsOf(int) -/
def Sp_R_bendsOf (a1 : Int32) (σ : S0) (post : Int32 → S0 → Prop) : Prop :=
  vp_in a1 240 ∧
  vp_in (σ 14 a1.toNatClampNeg) 166 ∧
  vp_in a1 240 ∧
  vp_in (σ 13 a1.toNatClampNeg) 166 ∧
  post (((σ 8 (σ 14 a1.toNatClampNeg).toNatClampNeg) - (σ 8 (σ 13 a1.toNatClampNeg).toNatClampNeg)) - 1) σ
/-- MatrixSheetsModel: private void addPiece(int, int) -/
def Sp_R_addPiece (a1 a2 : Int32) (σ : S0) (post : S0 → Prop) : Prop :=
  vp_in (σ 0 4) 400 ∧
  (∀ σ1 : S0, σ1 = st σ 11 (σ 0 4).toNatClampNeg a1 →
  vp_in (σ1 0 4) 400 ∧
  (∀ σ2 : S0, σ2 = st σ1 12 (σ1 0 4).toNatClampNeg a2 →
  (∀ σ3 : S0, σ3 = st σ2 0 4 ((σ2 0 4) + 1) →
  post σ3)))
/-- MatrixSheetsModel: private boolean findBends() -/
def Sp_R_findBends (σ : S0) (post : Int32 → S0 → Prop) : Prop :=
  ∀ G17 : Int32 → S0 → Prop,
  ∀ G125 : Int32 → S0 → Prop,
  ∀ G142 : Int32 → Int32 → Int32 → S0 → Prop,
  (∀ (x1 : Int32) (σ : S0),
    ((256 ≤ x1 →
      (((σ 0 3) ≤ 150 →
        G125 0 σ) ∧
      (¬ (σ 0 3) ≤ 150 →
        post 0 σ))) ∧
    (¬ 256 ≤ x1 →
      vp_in x1 256 ∧
      ((¬ (σ 7 x1.toNatClampNeg) = 0 →
        vp_in (σ 0 5) 240 ∧
        (∀ σ4 : S0, σ4 = st σ 13 (σ 0 5).toNatClampNeg (x1 / 16) →
        vp_in (σ4 0 5) 240 ∧
        (∀ σ5 : S0, σ5 = st σ4 14 (σ4 0 5).toNatClampNeg (x1 - x1 / 16 * 16) →
        vp_in (σ5 0 5) 240 ∧
        (∀ σ6 : S0, σ6 = st σ5 15 (σ5 0 5).toNatClampNeg (16 + (σ5 0 3)) →
        Sp_R_bendsOf (σ6 0 5) σ6 (fun (r8 : Int32) (σ7 : S0) =>
        (∀ σ9 : S0, σ9 = st σ7 0 3 ((σ6 0 3) + r8) →
        (∀ σ10 : S0, σ10 = st σ9 0 5 ((σ9 0 5) + 1) →
        G17 (x1 + 1) σ10))))))) ∧
      ((σ 7 x1.toNatClampNeg) = 0 →
        G17 (x1 + 1) σ)))) →
    G17 x1 σ) →
  (∀ (x1 : Int32) (σ : S0),
    (((σ 0 5) ≤ x1 →
      post 1 σ) ∧
    (¬ (σ 0 5) ≤ x1 →
      vp_in x1 240 ∧
      (∀ v11 : Int32, v11 = (σ 13 x1.toNatClampNeg) →
      G142 x1 v11 0 σ))) →
    G125 x1 σ) →
  (∀ (x1 x2 x3 : Int32) (σ : S0),
    Sp_R_bendsOf x1 σ (fun (r13 : Int32) (σ12 : S0) =>
    ((r13 ≤ x3 →
      vp_in x1 240 ∧
      Sp_R_addPiece x2 (σ12 14 x1.toNatClampNeg) σ12 (fun (σ14 : S0) =>
      G125 (x1 + 1) σ14)) ∧
    (¬ r13 ≤ x3 →
      vp_in x1 240 ∧
      vp_in x1 240 ∧
      vp_in (σ12 13 x1.toNatClampNeg) 166 ∧
      vp_in ((σ12 15 x1.toNatClampNeg) + x3) 166 ∧
      (∀ σ15 : S0, σ15 = st σ12 8 ((σ12 15 x1.toNatClampNeg) + x3).toNatClampNeg (((σ12 8 (σ12 13 x1.toNatClampNeg).toNatClampNeg) + 1) + x3) →
      vp_in x1 240 ∧
      Sp_R_addPiece x2 ((σ15 15 x1.toNatClampNeg) + x3) σ15 (fun (σ16 : S0) =>
      vp_in x1 240 ∧
      (∀ v17 : Int32, v17 = ((σ16 15 x1.toNatClampNeg) + x3) →
      G142 x1 v17 (x3 + 1) σ16)))))) →
    G142 x1 x2 x3 σ) →
  (∀ σ1 : S0, σ1 = st σ 0 5 0 →
  (∀ σ2 : S0, σ2 = st σ1 0 3 0 →
  (∀ σ3 : S0, σ3 = st σ2 0 4 0 →
  G17 0 σ3)))
/-- MatrixSheetsModel: private void placeAll() -/
def Sp_R_placeAll (σ : S0) (post : S0 → Prop) : Prop :=
  ∀ G2 : Int32 → S0 → Prop,
  ∀ G22 : Int32 → Int32 → S0 → Prop,
  ∀ G54 : Int32 → Int32 → Int32 → Int32 → Int32 → S0 → Prop,
  (∀ (x1 : Int32) (σ : S0),
    (((16 + (σ 0 3)) ≤ x1 →
      post σ) ∧
    (¬ (16 + (σ 0 3)) ≤ x1 →
      vp_in x1 166 ∧
      (∀ σ1 : S0, σ1 = st σ 9 x1.toNatClampNeg 0 →
      G22 x1 0 σ1))) →
    G2 x1 σ) →
  (∀ (x1 x2 : Int32) (σ : S0),
    ((x1 ≤ x2 →
      G2 (x1 + 1) σ) ∧
    (¬ x1 ≤ x2 →
      vp_in x1 166 ∧
      vp_in x2 166 ∧
      vp_in x1 166 ∧
      ((¬ (σ 8 x2.toNatClampNeg) = (σ 8 x1.toNatClampNeg) →
        G54 x1 x2 x1 (σ 9 x1.toNatClampNeg) 0 σ) ∧
      ((σ 8 x2.toNatClampNeg) = (σ 8 x1.toNatClampNeg) →
        G54 x1 x2 x1 (σ 9 x1.toNatClampNeg) 1 σ)))) →
    G22 x1 x2 σ) →
  (∀ (x1 x2 t1 t2 t3 : Int32) (σ : S0),
    vp_in t1 166 ∧
    (∀ σ2 : S0, σ2 = st σ 9 t1.toNatClampNeg (t2 + t3) →
    G22 x1 (x2 + 1) σ2) →
    G54 x1 x2 t1 t2 t3 σ) →
  G2 0 σ
/-- MatrixSheetsModel: private int crossedNow() -/
def Sp_R_crossedNow (σ : S0) (post : Int32 → S0 → Prop) : Prop :=
  ∀ G4 : Int32 → Int32 → S0 → Prop,
  ∀ G14 : Int32 → Int32 → Int32 → S0 → Prop,
  ∀ G108 : Int32 → Int32 → Int32 → Int32 → Int32 → S0 → Prop,
  (∀ (x1 x2 : Int32) (σ : S0),
    (((σ 0 4) ≤ x2 →
      post x1 σ) ∧
    (¬ (σ 0 4) ≤ x2 →
      G14 x1 x2 0 σ)) →
    G4 x1 x2 σ) →
  (∀ (x1 x2 x3 : Int32) (σ : S0),
    ((x2 ≤ x3 →
      G4 x1 (x2 + 1) σ) ∧
    (¬ x2 ≤ x3 →
      vp_in x2 400 ∧
      vp_in (σ 11 x2.toNatClampNeg) 166 ∧
      vp_in x3 400 ∧
      vp_in (σ 11 x3.toNatClampNeg) 166 ∧
      (((σ 8 (σ 11 x2.toNatClampNeg).toNatClampNeg) = (σ 8 (σ 11 x3.toNatClampNeg).toNatClampNeg) →
        vp_in x2 400 ∧
        vp_in (σ 11 x2.toNatClampNeg) 166 ∧
        vp_in x3 400 ∧
        vp_in (σ 11 x3.toNatClampNeg) 166 ∧
        (∀ v1 : Int32, v1 = ((σ 9 (σ 11 x2.toNatClampNeg).toNatClampNeg) - (σ 9 (σ 11 x3.toNatClampNeg).toNatClampNeg)) →
        vp_in x2 400 ∧
        vp_in (σ 12 x2.toNatClampNeg) 166 ∧
        vp_in x3 400 ∧
        vp_in (σ 12 x3.toNatClampNeg) 166 ∧
        (∀ v2 : Int32, v2 = ((σ 9 (σ 12 x2.toNatClampNeg).toNatClampNeg) - (σ 9 (σ 12 x3.toNatClampNeg).toNatClampNeg)) →
        ((0 ≤ v1 →
          G108 x2 x3 v1 v2 x1 σ) ∧
        (¬ 0 ≤ v1 →
          ((0 < v2 →
            (∀ v3 : Int32, v3 = (x1 + 1) →
            G14 v3 x2 (x3 + 1) σ)) ∧
          (¬ 0 < v2 →
            G108 x2 x3 v1 v2 x1 σ))))))) ∧
      (¬ (σ 8 (σ 11 x2.toNatClampNeg).toNatClampNeg) = (σ 8 (σ 11 x3.toNatClampNeg).toNatClampNeg) →
        G14 x1 x2 (x3 + 1) σ)))) →
    G14 x1 x2 x3 σ) →
  (∀ (x2 x3 x4 x5 t0 : Int32) (σ : S0),
    ((x4 ≤ 0 →
      (∀ v4 : Int32, v4 = (t0 + 0) →
      G14 v4 x2 (x3 + 1) σ)) ∧
    (¬ x4 ≤ 0 →
      ((0 ≤ x5 →
        (∀ v5 : Int32, v5 = (t0 + 0) →
        G14 v5 x2 (x3 + 1) σ)) ∧
      (¬ 0 ≤ x5 →
        (∀ v6 : Int32, v6 = (t0 + 1) →
        G14 v6 x2 (x3 + 1) σ))))) →
    G108 x2 x3 x4 x5 t0 σ) →
  G4 0 0 σ
/-- MatrixSheetsModel: private void keep() -/
def Sp_R_keep (σ : S0) (post : S0 → Prop) : Prop :=
  ∀ G2 : Int32 → S0 → Prop,
  (∀ (x1 : Int32) (σ : S0),
    ((166 ≤ x1 →
      post σ) ∧
    (¬ 166 ≤ x1 →
      vp_in x1 166 ∧
      vp_in x1 166 ∧
      (∀ σ1 : S0, σ1 = st σ 10 x1.toNatClampNeg (σ 9 x1.toNatClampNeg) →
      G2 (x1 + 1) σ1))) →
    G2 x1 σ) →
  G2 0 σ
/-- MatrixSheetsModel: private int lastRow() -/
def Sp_R_lastRow (σ : S0) (post : Int32 → S0 → Prop) : Prop :=
  ∀ G4 : Int32 → Int32 → S0 → Prop,
  (∀ (x1 x2 : Int32) (σ : S0),
    ((16 ≤ x2 →
      post x1 σ) ∧
    (¬ 16 ≤ x2 →
      Sp_R_isDrawn x2 σ (fun (r2 : Int32) (σ1 : S0) =>
      ((r2 = 0 →
        G4 x1 (x2 + 1) σ1) ∧
      (¬ r2 = 0 →
        vp_in x2 166 ∧
        (((σ1 8 x2.toNatClampNeg) ≤ x1 →
          G4 x1 (x2 + 1) σ1) ∧
        (¬ (σ1 8 x2.toNatClampNeg) ≤ x1 →
          vp_in x2 166 ∧
          (∀ v3 : Int32, v3 = (σ1 8 x2.toNatClampNeg) →
          G4 v3 (x2 + 1) σ1)))))))) →
    G4 x1 x2 σ) →
  G4 (-1) 0 σ
/-- MatrixSheetsModel: private void put(int) -/
def Sp_R_put (a1 : Int32) (σ : S0) (post : S0 → Prop) : Prop :=
  vp_in (σ 0 6) 1500 ∧
  (∀ σ1 : S0, σ1 = st σ 20 (σ 0 6).toNatClampNeg a1 →
  (∀ σ2 : S0, σ2 = st σ1 0 6 ((σ1 0 6) + 1) →
  post σ2))
/-- MatrixSheetsModel: private void point(int) -/
def Sp_R_point (a1 : Int32) (σ : S0) (post : S0 → Prop) : Prop :=
  vp_in a1 166 ∧
  Sp_R_put (16 * (σ 10 a1.toNatClampNeg)) σ (fun (σ1 : S0) =>
  vp_in a1 166 ∧
  Sp_R_put (16 * (σ1 8 a1.toNatClampNeg)) σ1 (fun (σ2 : S0) =>
  post σ2))
/-- MatrixSheetsModel: private void write() -/
def Sp_R_write (σ : S0) (post : S0 → Prop) : Prop :=
  ∀ G12 : Int32 → Int32 → S0 → Prop,
  ∀ G19 : Int32 → Int32 → Int32 → S0 → Prop,
  ∀ G29 : Int32 → Int32 → Int32 → Int32 → S0 → Prop,
  ∀ G98 : Int32 → S0 → Prop,
  ∀ G134 : Int32 → Int32 → S0 → Prop,
  (∀ (x1 x2 : Int32) (σ : S0),
    ((x1 < x2 →
      G98 0 σ) ∧
    (¬ x1 < x2 →
      G19 x1 x2 0 σ)) →
    G12 x1 x2 σ) →
  (∀ (x1 x2 x3 : Int32) (σ : S0),
    ((166 ≤ x3 →
      G12 x1 (x2 + 1) σ) ∧
    (¬ 166 ≤ x3 →
      G29 x1 x2 x3 0 σ)) →
    G19 x1 x2 x3 σ) →
  (∀ (x1 x2 x3 x4 : Int32) (σ : S0),
    ((16 ≤ x4 →
      G19 x1 x2 (x3 + 1) σ) ∧
    (¬ 16 ≤ x4 →
      vp_in x4 166 ∧
      ((¬ (σ 8 x4.toNatClampNeg) = x2 →
        G29 x1 x2 x3 (x4 + 1) σ) ∧
      ((σ 8 x4.toNatClampNeg) = x2 →
        vp_in x4 166 ∧
        (((σ 10 x4.toNatClampNeg) = x3 →
          Sp_R_put 1 σ (fun (σ13 : S0) =>
          Sp_R_put x4 σ13 (fun (σ14 : S0) =>
          Sp_R_point x4 σ14 (fun (σ15 : S0) =>
          G29 x1 x2 x3 (x4 + 1) σ15)))) ∧
        (¬ (σ 10 x4.toNatClampNeg) = x3 →
          G29 x1 x2 x3 (x4 + 1) σ)))))) →
    G29 x1 x2 x3 x4 σ) →
  (∀ (x2 : Int32) (σ : S0),
    (((σ 0 5) ≤ x2 →
      post σ) ∧
    (¬ (σ 0 5) ≤ x2 →
      Sp_R_put 2 σ (fun (σ4 : S0) =>
      Sp_R_bendsOf x2 σ4 (fun (r6 : Int32) (σ5 : S0) =>
      Sp_R_put (r6 + 2) σ5 (fun (σ7 : S0) =>
      vp_in x2 240 ∧
      Sp_R_point (σ7 13 x2.toNatClampNeg) σ7 (fun (σ8 : S0) =>
      G134 x2 0 σ8)))))) →
    G98 x2 σ) →
  (∀ (x2 x3 : Int32) (σ : S0),
    Sp_R_bendsOf x2 σ (fun (r10 : Int32) (σ9 : S0) =>
    ((r10 ≤ x3 →
      vp_in x2 240 ∧
      Sp_R_point (σ9 14 x2.toNatClampNeg) σ9 (fun (σ11 : S0) =>
      G98 (x2 + 1) σ11)) ∧
    (¬ r10 ≤ x3 →
      vp_in x2 240 ∧
      Sp_R_point ((σ9 15 x2.toNatClampNeg) + x3) σ9 (fun (σ12 : S0) =>
      G134 x2 (x3 + 1) σ12)))) →
    G134 x2 x3 σ) →
  (∀ σ1 : S0, σ1 = st σ 0 6 0 →
  Sp_R_lastRow σ1 (fun (r3 : Int32) (σ2 : S0) =>
  G12 r3 0 σ2))
/-- MatrixSheetsModel: private void sort(int) -/
def Sp_R_sort (a1 : Int32) (σ : S0) (post : S0 → Prop) : Prop :=
  ∀ G2 : Int32 → Int32 → S0 → Prop,
  ∀ G17 : Int32 → Int32 → Int32 → Int32 → S0 → Prop,
  ∀ G89 : Int32 → Int32 → Int32 → Int32 → S0 → Prop,
  (∀ (x1 x2 : Int32) (σ : S0),
    ((x1 ≤ x2 →
      post σ) ∧
    (¬ x1 ≤ x2 →
      vp_in x2 166 ∧
      (∀ v1 : Int32, v1 = (σ 17 x2.toNatClampNeg) →
      G17 x1 x2 v1 x2 σ))) →
    G2 x1 x2 σ) →
  (∀ (x1 x2 x3 x4 : Int32) (σ : S0),
    ((x4 ≤ 0 →
      G89 x1 x2 x3 x4 σ) ∧
    (¬ x4 ≤ 0 →
      vp_in x3 166 ∧
      vp_in (x4 - 1) 166 ∧
      vp_in (σ 17 (x4 - 1).toNatClampNeg) 166 ∧
      vp_in (x4 - 1) 166 ∧
      vp_in (σ 17 (x4 - 1).toNatClampNeg) 166 ∧
      vp_in x3 166 ∧
      ((((σ 18 (σ 17 (x4 - 1).toNatClampNeg).toNatClampNeg) * (σ 19 x3.toNatClampNeg)) ≤ ((σ 18 x3.toNatClampNeg) * (σ 19 (σ 17 (x4 - 1).toNatClampNeg).toNatClampNeg)) →
        G89 x1 x2 x3 x4 σ) ∧
      (¬ ((σ 18 (σ 17 (x4 - 1).toNatClampNeg).toNatClampNeg) * (σ 19 x3.toNatClampNeg)) ≤ ((σ 18 x3.toNatClampNeg) * (σ 19 (σ 17 (x4 - 1).toNatClampNeg).toNatClampNeg)) →
        vp_in (x4 - 1) 166 ∧
        vp_in x4 166 ∧
        (∀ σ2 : S0, σ2 = st σ 17 x4.toNatClampNeg (σ 17 (x4 - 1).toNatClampNeg) →
        G17 x1 x2 x3 (x4 + (-1)) σ2))))) →
    G17 x1 x2 x3 x4 σ) →
  (∀ (x1 x2 x3 x4 : Int32) (σ : S0),
    vp_in x4 166 ∧
    (∀ σ3 : S0, σ3 = st σ 17 x4.toNatClampNeg x3 →
    G2 x1 (x2 + 1) σ3) →
    G89 x1 x2 x3 x4 σ) →
  G2 a1 1 σ
/-- MatrixSheetsModel: private void order(int, boolean) -/
def Sp_R_order (a1 a2 : Int32) (σ : S0) (post : S0 → Prop) : Prop :=
  ∀ G5 : Int32 → Int32 → Int32 → Int32 → S0 → Prop,
  ∀ G73 : Int32 → Int32 → Int32 → Int32 → S0 → Prop,
  ∀ G103 : Int32 → Int32 → Int32 → Int32 → Int32 → S0 → Prop,
  ∀ G126 : Int32 → Int32 → Int32 → Int32 → Int32 → Int32 → S0 → Prop,
  ∀ G179 : Int32 → Int32 → S0 → Prop,
  ∀ G243 : Int32 → Int32 → S0 → Prop,
  (∀ (x1 x2 x3 x4 : Int32) (σ : S0),
    (((16 + (σ 0 3)) ≤ x4 →
      G73 x1 x2 x3 0 σ) ∧
    (¬ (16 + (σ 0 3)) ≤ x4 →
      vp_in x4 166 ∧
      (((σ 8 x4.toNatClampNeg) = x1 →
        vp_in x4 166 ∧
        vp_in (σ 9 x4.toNatClampNeg) 166 ∧
        (∀ σ1 : S0, σ1 = st σ 17 (σ 9 x4.toNatClampNeg).toNatClampNeg x4 →
        vp_in x4 166 ∧
        (∀ σ2 : S0, σ2 = st σ1 18 x4.toNatClampNeg 0 →
        vp_in x4 166 ∧
        (∀ σ3 : S0, σ3 = st σ2 19 x4.toNatClampNeg 0 →
        G5 x1 x2 (x3 + 1) (x4 + 1) σ3)))) ∧
      (¬ (σ 8 x4.toNatClampNeg) = x1 →
        G5 x1 x2 x3 (x4 + 1) σ)))) →
    G5 x1 x2 x3 x4 σ) →
  (∀ (x1 x2 x3 x4 : Int32) (σ : S0),
    (((σ 0 4) ≤ x4 →
      G179 x3 0 σ) ∧
    (¬ (σ 0 4) ≤ x4 →
      ((x2 = 0 →
        vp_in x4 400 ∧
        G103 x1 x2 x3 x4 (σ 11 x4.toNatClampNeg) σ) ∧
      (¬ x2 = 0 →
        vp_in x4 400 ∧
        G103 x1 x2 x3 x4 (σ 12 x4.toNatClampNeg) σ)))) →
    G73 x1 x2 x3 x4 σ) →
  (∀ (x1 x2 x3 x4 t0 : Int32) (σ : S0),
    ((x2 = 0 →
      vp_in x4 400 ∧
      G126 x1 x2 x3 x4 t0 (σ 12 x4.toNatClampNeg) σ) ∧
    (¬ x2 = 0 →
      vp_in x4 400 ∧
      G126 x1 x2 x3 x4 t0 (σ 11 x4.toNatClampNeg) σ)) →
    G103 x1 x2 x3 x4 t0 σ) →
  (∀ (x1 x2 x3 x4 x5 t0 : Int32) (σ : S0),
    vp_in x5 166 ∧
    (((σ 8 x5.toNatClampNeg) = x1 →
      vp_in x5 166 ∧
      vp_in t0 166 ∧
      vp_in x5 166 ∧
      (∀ σ9 : S0, σ9 = st σ 18 x5.toNatClampNeg ((σ 18 x5.toNatClampNeg) + (σ 9 t0.toNatClampNeg)) →
      vp_in x5 166 ∧
      vp_in x5 166 ∧
      (∀ σ10 : S0, σ10 = st σ9 19 x5.toNatClampNeg ((σ9 19 x5.toNatClampNeg) + 1) →
      G73 x1 x2 x3 (x4 + 1) σ10))) ∧
    (¬ (σ 8 x5.toNatClampNeg) = x1 →
      G73 x1 x2 x3 (x4 + 1) σ)) →
    G126 x1 x2 x3 x4 x5 t0 σ) →
  (∀ (x3 x4 : Int32) (σ : S0),
    ((x3 ≤ x4 →
      Sp_R_sort x3 σ (fun (σ4 : S0) =>
      G243 x3 0 σ4)) ∧
    (¬ x3 ≤ x4 →
      vp_in x4 166 ∧
      (∀ v5 : Int32, v5 = (σ 17 x4.toNatClampNeg) →
      vp_in v5 166 ∧
      (((σ 19 v5.toNatClampNeg) ≤ 0 →
        vp_in v5 166 ∧
        vp_in v5 166 ∧
        (∀ σ6 : S0, σ6 = st σ 18 v5.toNatClampNeg (σ 9 v5.toNatClampNeg) →
        vp_in v5 166 ∧
        (∀ σ7 : S0, σ7 = st σ6 19 v5.toNatClampNeg 1 →
        G179 x3 (x4 + 1) σ7))) ∧
      (¬ (σ 19 v5.toNatClampNeg) ≤ 0 →
        G179 x3 (x4 + 1) σ))))) →
    G179 x3 x4 σ) →
  (∀ (x3 x4 : Int32) (σ : S0),
    ((x3 ≤ x4 →
      post σ) ∧
    (¬ x3 ≤ x4 →
      vp_in x4 166 ∧
      vp_in (σ 17 x4.toNatClampNeg) 166 ∧
      (∀ σ8 : S0, σ8 = st σ 9 (σ 17 x4.toNatClampNeg).toNatClampNeg x4 →
      G243 x3 (x4 + 1) σ8))) →
    G243 x3 x4 σ) →
  G5 a1 a2 0 0 σ
/-- MatrixSheetsModel: private void round() -/
def Sp_R_round (σ : S0) (post : S0 → Prop) : Prop :=
  ∀ G7 : Int32 → Int32 → S0 → Prop,
  ∀ G28 : Int32 → S0 → Prop,
  (∀ (x1 x2 : Int32) (σ : S0),
    ((x1 < x2 →
      (∀ v3 : Int32, v3 = (x1 - 1) →
      G28 v3 σ)) ∧
    (¬ x1 < x2 →
      Sp_R_order x2 1 σ (fun (σ4 : S0) =>
      G7 x1 (x2 + 1) σ4))) →
    G7 x1 x2 σ) →
  (∀ (x2 : Int32) (σ : S0),
    ((x2 < 0 →
      post σ) ∧
    (¬ x2 < 0 →
      Sp_R_order x2 0 σ (fun (σ5 : S0) =>
      G28 (x2 + (-1)) σ5))) →
    G28 x2 σ) →
  Sp_R_lastRow σ (fun (r2 : Int32) (σ1 : S0) =>
  G7 r2 1 σ1)
/-- MatrixSheetsModel: public int draw(int) -/
def Sp_R_draw (a1 : Int32) (σ : S0) (post : Int32 → S0 → Prop) : Prop :=
  ∀ G16 : Int32 → Int32 → S0 → Prop,
  ∀ G36 : Int32 → Int32 → S0 → Prop,
  ∀ G117 : Int32 → Int32 → Int32 → S0 → Prop,
  ∀ G150 : Int32 → Int32 → Int32 → S0 → Prop,
  (∀ (x1 t1 : Int32) (σ : S0),
    Sp_R_throwing t1 0 σ (fun (r4 : Int32) (σ3 : S0) =>
    ((r4 = 0 →
      (∀ σ5 : S0, σ5 = st σ3 0 1 0 →
      Sp_R_findOver σ5 (fun (σ6 : S0) =>
      G36 x1 0 σ6))) ∧
    (¬ r4 = 0 →
      post 0 σ3))) →
    G16 x1 t1 σ) →
  (∀ (x1 x2 : Int32) (σ : S0),
    ((256 ≤ x2 →
      Sp_R_findLinks σ (fun (σ7 : S0) =>
      Sp_R_findRows σ7 (fun (σ8 : S0) =>
      Sp_R_findBends σ8 (fun (r10 : Int32) (σ9 : S0) =>
      ((¬ r10 = 0 →
        (∀ σ11 : S0, σ11 = st σ9 0 2 x1 →
        Sp_R_placeAll σ11 (fun (σ12 : S0) =>
        Sp_R_crossedNow σ12 (fun (r14 : Int32) (σ13 : S0) =>
        vp_in 0 13 ∧
        (∀ σ15 : S0, σ15 = st σ13 16 (0 : Int32).toNatClampNeg r14 →
        vp_in 0 13 ∧
        (∀ v16 : Int32, v16 = (σ15 16 (0 : Int32).toNatClampNeg) →
        Sp_R_keep σ15 (fun (σ17 : S0) =>
        G117 x1 v16 1 σ17))))))) ∧
      (r10 = 0 →
        post (-3) σ9)))))) ∧
    (¬ 256 ≤ x2 →
      Sp_R_misfits (x2 / 16) (x2 - x2 / 16 * 16) σ (fun (r19 : Int32) (σ18 : S0) =>
      ((r19 = 0 →
        G36 x1 (x2 + 1) σ18) ∧
      (¬ r19 = 0 →
        post (-2) σ18))))) →
    G36 x1 x2 σ) →
  (∀ (x1 x2 x3 : Int32) (σ : S0),
    ((x1 < x3 →
      (∀ σ20 : S0, σ20 = st σ 0 1 1 →
      Sp_R_write σ20 (fun (σ21 : S0) =>
      post x2 σ21))) ∧
    (¬ x1 < x3 →
      Sp_R_round σ (fun (σ22 : S0) =>
      Sp_R_crossedNow σ22 (fun (r24 : Int32) (σ23 : S0) =>
      vp_in x3 13 ∧
      (∀ σ25 : S0, σ25 = st σ23 16 x3.toNatClampNeg r24 →
      vp_in x3 13 ∧
      ((x2 ≤ (σ25 16 x3.toNatClampNeg) →
        G150 x1 x2 x3 σ25) ∧
      (¬ x2 ≤ (σ25 16 x3.toNatClampNeg) →
        Sp_R_keep σ25 (fun (σ26 : S0) =>
        G150 x1 x2 x3 σ26)))))))) →
    G117 x1 x2 x3 σ) →
  (∀ (x1 x2 x3 : Int32) (σ : S0),
    vp_in x3 13 ∧
    ((x2 ≤ (σ 16 x3.toNatClampNeg) →
      G117 x1 x2 (x3 + 1) σ) ∧
    (¬ x2 ≤ (σ 16 x3.toNatClampNeg) →
      vp_in x3 13 ∧
      (∀ v27 : Int32, v27 = (σ 16 x3.toNatClampNeg) →
      G117 x1 v27 (x3 + 1) σ))) →
    G150 x1 x2 x3 σ) →
  Sp_R_in a1 0 12 σ (fun (r2 : Int32) (σ1 : S0) =>
  ((¬ r2 = 0 →
    G16 a1 0 σ1) ∧
  (r2 = 0 →
    G16 a1 1 σ1)))
/-- MatrixSheetsModel: public int crossings(int) -/
def Sp_R_crossings (a1 : Int32) (σ : S0) (post : Int32 → S0 → Prop) : Prop :=
  ∀ G25 : Int32 → Int32 → S0 → Prop,
  ∀ G37 : Int32 → Int32 → Int32 → S0 → Prop,
  (∀ (x1 t1 : Int32) (σ : S0),
    ((¬ (σ 0 1) = 0 →
      G37 x1 t1 0 σ) ∧
    ((σ 0 1) = 0 →
      G37 x1 t1 1 σ)) →
    G25 x1 t1 σ) →
  (∀ (x1 t1 t2 : Int32) (σ : S0),
    Sp_R_throwing t1 t2 σ (fun (r2 : Int32) (σ1 : S0) =>
    ((r2 = 0 →
      vp_in x1 13 ∧
      post (σ1 16 x1.toNatClampNeg) σ1) ∧
    (¬ r2 = 0 →
      post 0 σ1))) →
    G37 x1 t1 t2 σ) →
  ((a1 < 0 →
    G25 a1 1 σ) ∧
  (¬ a1 < 0 →
    (((σ 0 1) = 0 →
      G25 a1 0 σ) ∧
    (¬ (σ 0 1) = 0 →
      ((a1 ≤ (σ 0 2) →
        G25 a1 0 σ) ∧
      (¬ a1 ≤ (σ 0 2) →
        G25 a1 1 σ))))))
/-- MatrixSheetsModel: public int at(int, int) -/
def Sp_R_at (a1 a2 : Int32) (σ : S0) (post : Int32 → S0 → Prop) : Prop :=
  ∀ G22 : Int32 → Int32 → Int32 → S0 → Prop,
  ∀ G34 : Int32 → Int32 → Int32 → Int32 → S0 → Prop,
  (∀ (x1 x2 t1 : Int32) (σ : S0),
    ((¬ (σ 0 1) = 0 →
      G34 x1 x2 t1 0 σ) ∧
    ((σ 0 1) = 0 →
      G34 x1 x2 t1 1 σ)) →
    G22 x1 x2 t1 σ) →
  (∀ (x1 x2 t1 t2 : Int32) (σ : S0),
    Sp_R_throwing t1 t2 σ (fun (r6 : Int32) (σ5 : S0) =>
    ((r6 = 0 →
      vp_in x1 16 ∧
      (∀ v7 : Int32, v7 = (σ5 2 x1.toNatClampNeg) →
      Sp_R_isDrawn v7 σ5 (fun (r9 : Int32) (σ8 : S0) =>
      ((¬ r9 = 0 →
        ((¬ x2 = 0 →
          vp_in v7 166 ∧
          post (σ8 10 v7.toNatClampNeg) σ8) ∧
        (x2 = 0 →
          vp_in v7 166 ∧
          post (σ8 8 v7.toNatClampNeg) σ8))) ∧
      (r9 = 0 →
        post (-1) σ8))))) ∧
    (¬ r6 = 0 →
      post 0 σ5))) →
    G34 x1 x2 t1 t2 σ) →
  Sp_R_isContext a1 σ (fun (r2 : Int32) (σ1 : S0) =>
  ((r2 = 0 →
    G22 a1 a2 1 σ1) ∧
  (¬ r2 = 0 →
    Sp_R_in a2 0 1 σ1 (fun (r4 : Int32) (σ3 : S0) =>
    ((¬ r4 = 0 →
      G22 a1 a2 0 σ3) ∧
    (r4 = 0 →
      G22 a1 a2 1 σ3))))))
/-- MatrixSheetsModel: public int links() -/
def Sp_R_links (σ : S0) (post : Int32 → S0 → Prop) : Prop :=
  ∀ G13 : Int32 → S0 → Prop,
  (∀ (t1 : Int32) (σ : S0),
    Sp_R_throwing t1 0 σ (fun (r2 : Int32) (σ1 : S0) =>
    ((r2 = 0 →
      post (σ1 0 5) σ1) ∧
    (¬ r2 = 0 →
      post 0 σ1))) →
    G13 t1 σ) →
  ((¬ (σ 0 1) = 0 →
    G13 0 σ) ∧
  ((σ 0 1) = 0 →
    G13 1 σ))
/-- MatrixSheetsModel: public int link(int, int) -/
def Sp_R_link (a1 a2 : Int32) (σ : S0) (post : Int32 → S0 → Prop) : Prop :=
  ∀ G39 : Int32 → Int32 → Int32 → S0 → Prop,
  ∀ G54 : Int32 → Int32 → Int32 → Int32 → S0 → Prop,
  (∀ (x1 x2 t0 : Int32) (σ : S0),
    ((¬ (σ 0 1) = 0 →
      G54 x1 x2 t0 0 σ) ∧
    ((σ 0 1) = 0 →
      G54 x1 x2 t0 1 σ)) →
    G39 x1 x2 t0 σ) →
  (∀ (x1 x2 t1 t2 : Int32) (σ : S0),
    Sp_R_throwing t1 t2 σ (fun (r4 : Int32) (σ3 : S0) =>
    ((r4 = 0 →
      (((x2 = 0 →
        vp_in x1 240 ∧
        post (σ3 13 x1.toNatClampNeg) σ3) ∧
      (x2 = 1 →
        vp_in x1 240 ∧
        post (σ3 14 x1.toNatClampNeg) σ3) ∧
      (x2 = 2 →
        Sp_R_bendsOf x1 σ3 (fun (r6 : Int32) (σ5 : S0) =>
        post r6 σ5))) ∧
      (¬ x2 = 0 ∧ ¬ x2 = 1 ∧ ¬ x2 = 2 →
        vp_in x1 240 ∧
        vp_in (((σ3 15 x1.toNatClampNeg) + x2) - 3) 166 ∧
        post (σ3 10 (((σ3 15 x1.toNatClampNeg) + x2) - 3).toNatClampNeg) σ3))) ∧
    (¬ r4 = 0 →
      post 0 σ3))) →
    G54 x1 x2 t1 t2 σ) →
  ((a1 < 0 →
    G39 a1 a2 1 σ) ∧
  (¬ a1 < 0 →
    ((a2 < 0 →
      G39 a1 a2 1 σ) ∧
    (¬ a2 < 0 →
      (((σ 0 1) = 0 →
        G39 a1 a2 0 σ) ∧
      (¬ (σ 0 1) = 0 →
        (((σ 0 5) ≤ a1 →
          G39 a1 a2 1 σ) ∧
        (¬ (σ 0 5) ≤ a1 →
          Sp_R_bendsOf a1 σ (fun (r2 : Int32) (σ1 : S0) =>
          ((a2 ≤ (2 + r2) →
            G39 a1 a2 0 σ1) ∧
          (¬ a2 ≤ (2 + r2) →
            G39 a1 a2 1 σ1)))))))))))
/-- MatrixSheetsModel: public int command(int) -/
def Sp_R_command (a1 : Int32) (σ : S0) (post : Int32 → S0 → Prop) : Prop :=
  ∀ G26 : Int32 → Int32 → S0 → Prop,
  ∀ G38 : Int32 → Int32 → Int32 → S0 → Prop,
  (∀ (x1 t1 : Int32) (σ : S0),
    ((¬ (σ 0 1) = 0 →
      G38 x1 t1 0 σ) ∧
    ((σ 0 1) = 0 →
      G38 x1 t1 1 σ)) →
    G26 x1 t1 σ) →
  (∀ (x1 t1 t2 : Int32) (σ : S0),
    Sp_R_throwing t1 t2 σ (fun (r2 : Int32) (σ1 : S0) =>
    ((r2 = 0 →
      ((¬ x1 = (-1) →
        vp_in x1 1500 ∧
        post (σ1 20 x1.toNatClampNeg) σ1) ∧
      (x1 = (-1) →
        post (σ1 0 6) σ1))) ∧
    (¬ r2 = 0 →
      post 0 σ1))) →
    G38 x1 t1 t2 σ) →
  ((a1 < (-1) →
    G26 a1 1 σ) ∧
  (¬ a1 < (-1) →
    (((σ 0 1) = 0 →
      G26 a1 0 σ) ∧
    (¬ (σ 0 1) = 0 →
      ((a1 < (σ 0 6) →
        G26 a1 0 σ) ∧
      (¬ a1 < (σ 0 6) →
        G26 a1 1 σ))))))
/-- MatrixSheetsModel: public int count(int) -/
def Sp_R_count (a1 : Int32) (σ : S0) (post : Int32 → S0 → Prop) : Prop :=
  ∀ G15 : Int32 → Int32 → S0 → Prop,
  ∀ G28 : Int32 → Int32 → Int32 → S0 → Prop,
  ∀ G53 : Int32 → Int32 → Int32 → Int32 → S0 → Prop,
  ∀ G63 : Int32 → Int32 → Int32 → S0 → Prop,
  ∀ G90 : Int32 → Int32 → Int32 → Int32 → S0 → Prop,
  ∀ G100 : Int32 → Int32 → Int32 → S0 → Prop,
  ∀ G135 : Int32 → Int32 → Int32 → Int32 → S0 → Prop,
  ∀ G143 : Int32 → Int32 → S0 → Prop,
  (∀ (x1 t1 : Int32) (σ : S0),
    Sp_R_throwing t1 0 σ (fun (r4 : Int32) (σ3 : S0) =>
    ((r4 = 0 →
      G28 x1 0 0 σ3) ∧
    (¬ r4 = 0 →
      post 0 σ3))) →
    G15 x1 t1 σ) →
  (∀ (x1 x2 x3 : Int32) (σ : S0),
    ((16 ≤ x3 →
      G63 x1 x2 0 σ) ∧
    (¬ 16 ≤ x3 →
      ((¬ x1 = 0 →
        G63 x1 x2 0 σ) ∧
      (x1 = 0 →
        vp_in x3 16 ∧
        (((σ 5 x3.toNatClampNeg) = 0 →
          G53 x1 x3 x2 0 σ) ∧
        (¬ (σ 5 x3.toNatClampNeg) = 0 →
          G53 x1 x3 x2 1 σ)))))) →
    G28 x1 x2 x3 σ) →
  (∀ (x1 x3 t0 t1 : Int32) (σ : S0),
    (∀ v5 : Int32, v5 = (t0 + t1) →
    G28 x1 v5 (x3 + 1) σ) →
    G53 x1 x3 t0 t1 σ) →
  (∀ (x1 x2 x3 : Int32) (σ : S0),
    ((256 ≤ x3 →
      G100 x1 x2 0 σ) ∧
    (¬ 256 ≤ x3 →
      ((¬ x1 = 1 →
        G100 x1 x2 0 σ) ∧
      (x1 = 1 →
        vp_in x3 256 ∧
        (((σ 1 x3.toNatClampNeg) = 0 →
          G90 x1 x3 x2 0 σ) ∧
        (¬ (σ 1 x3.toNatClampNeg) = 0 →
          G90 x1 x3 x2 1 σ)))))) →
    G63 x1 x2 x3 σ) →
  (∀ (x1 x3 t0 t1 : Int32) (σ : S0),
    (∀ v8 : Int32, v8 = (t0 + t1) →
    G63 x1 v8 (x3 + 1) σ) →
    G90 x1 x3 t0 t1 σ) →
  (∀ (x1 x2 x3 : Int32) (σ : S0),
    ((16 ≤ x3 →
      G143 x1 x2 σ) ∧
    (¬ 16 ≤ x3 →
      ((¬ x1 = 2 →
        G143 x1 x2 σ) ∧
      (x1 = 2 →
        vp_in x3 16 ∧
        ((¬ (σ 2 x3.toNatClampNeg) = x3 →
          G135 x1 x3 x2 0 σ) ∧
        ((σ 2 x3.toNatClampNeg) = x3 →
          Sp_R_isThere x3 σ (fun (r7 : Int32) (σ6 : S0) =>
          ((r7 = 0 →
            G135 x1 x3 x2 0 σ6) ∧
          (¬ r7 = 0 →
            G135 x1 x3 x2 1 σ6))))))))) →
    G100 x1 x2 x3 σ) →
  (∀ (x1 x3 t0 t1 : Int32) (σ : S0),
    (∀ v11 : Int32, v11 = (t0 + t1) →
    G100 x1 v11 (x3 + 1) σ) →
    G135 x1 x3 t0 t1 σ) →
  (∀ (x1 x2 : Int32) (σ : S0),
    ((3 ≤ x1 →
      ((¬ (σ 0 1) = 0 →
        ((¬ x1 = 3 →
          post (σ 0 3) σ) ∧
        (x1 = 3 →
          Sp_R_lastRow σ (fun (r10 : Int32) (σ9 : S0) =>
          post (r10 + 1) σ9)))) ∧
      ((σ 0 1) = 0 →
        post 0 σ))) ∧
    (¬ 3 ≤ x1 →
      post x2 σ)) →
    G143 x1 x2 σ) →
  Sp_R_in a1 0 4 σ (fun (r2 : Int32) (σ1 : S0) =>
  ((¬ r2 = 0 →
    G15 a1 0 σ1) ∧
  (r2 = 0 →
    G15 a1 1 σ1)))
