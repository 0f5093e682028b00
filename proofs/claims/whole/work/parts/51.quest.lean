/-! BOTH SIDES: the questions -/
theorem b_fault {σ : St} (hI : Inv σ) {p1 : Int} (h1 : in32 p1) : Both (fun σ => f_X8_fault σ p1) (fun σ => f_X9_fault σ p1) σ :=
  both_q hI (QC.of_eq hI (V_fault hI h1)) (fun σ1 hJ hm => by rw [← hm]; exact QM.of_eq (N_fault hJ.2.1 h1))
theorem b_height {σ : St} (hI : Inv σ) {p1 : Int} (h1 : in32 p1) : Both (fun σ => f_X8_height σ p1) (fun σ => f_X9_height σ p1) σ :=
  both_q hI (QC.of_eq hI (V_height hI h1)) (fun σ1 hJ hm => by rw [← hm]; exact QM.of_eq (N_height hJ.2.1 h1))
theorem b_level {σ : St} (hI : Inv σ) {p1 p2 : Int} (h1 : in32 p1) (h2 : in32 p2) : Both (fun σ => f_X8_level σ p1 p2) (fun σ => f_X9_level σ p1 p2) σ :=
  both_q hI (V_level hI h1 h2) (fun σ1 hJ hm => by rw [← hm]; exact QM.of_eq (N_level hJ.2.1 h1 h2))
theorem b_possession {σ : St} (hI : Inv σ) {p1 : Int} (h1 : in32 p1) : Both (fun σ => f_X8_possession σ p1) (fun σ => f_X9_possession σ p1) σ :=
  both_q hI (V_possession hI h1) (fun σ1 hJ hm => by rw [← hm]; exact QM.of_eq (N_possession hJ.2.1 h1))
theorem b_wet {σ : St} (hI : Inv σ) {p1 p2 p3 : Int} (h1 : in32 p1) (h2 : in32 p2) (h3 : in32 p3) : Both (fun σ => f_X8_wet σ p1 p2 p3) (fun σ => f_X9_wet σ p1 p2 p3) σ :=
  both_q hI (V_wet hI h1 h2 h3) (fun σ1 hJ hm => by rw [← hm]; exact QM.of_eq (N_wet hJ.2.1 h1 h2 h3))
theorem b_water {σ : St} (hI : Inv σ) {p1 p2 p3 : Int} (h1 : in32 p1) (h2 : in32 p2) (h3 : in32 p3) : Both (fun σ => f_X8_water σ p1 p2 p3) (fun σ => f_X9_water σ p1 p2 p3) σ :=
  both_q hI (V_water hI h1 h2 h3) (fun σ1 hJ hm => by rw [← hm]; exact QM.of_eq (N_water hJ.2.1 h1 h2 h3))
theorem b_cost {σ : St} (hI : Inv σ) {p1 p2 p3 p4 p5 : Int} (h1 : in32 p1) (h2 : in32 p2) (h3 : in32 p3) (h4 : in32 p4) (h5 : in32 p5) : Both (fun σ => f_X8_cost σ p1 p2 p3 p4 p5) (fun σ => f_X9_cost σ p1 p2 p3 p4 p5) σ :=
  both_q hI (V_cost hI h1 h2 h3 h4 h5) (fun σ1 hJ hm => by rw [← hm]; exact QM.of_eq (N_cost hJ.2.1 h1 h2 h3 h4 h5))
theorem b_closed {σ : St} (hI : Inv σ) {p1 p2 : Int} (h1 : in32 p1) (h2 : in32 p2) : Both (fun σ => f_X8_closed σ p1 p2) (fun σ => f_X9_closed σ p1 p2) σ :=
  both_q hI (V_closed hI h1 h2) (fun σ1 hJ hm => by rw [← hm]; exact QM.of_eq (N_closed hJ.2.1 h1 h2))
theorem b_deed {σ : St} (hI : Inv σ) {p1 p2 : Int} (h1 : in32 p1) (h2 : in32 p2) : Both (fun σ => f_X8_deed σ p1 p2) (fun σ => f_X9_deed σ p1 p2) σ :=
  both_q hI (V_deed hI h1 h2) (fun σ1 hJ hm => by rw [← hm]; exact QM.of_eq (N_deed hJ.2.1 h1 h2))
theorem b_waits {σ : St} (hI : Inv σ) {p1 p2 p3 p4 p5 : Int} (h1 : in32 p1) (h2 : in32 p2) (h3 : in32 p3) (h4 : in32 p4) (h5 : in32 p5) : Both (fun σ => f_X8_waits σ p1 p2 p3 p4 p5) (fun σ => f_X9_waits σ p1 p2 p3 p4 p5) σ :=
  both_q hI (V_waits hI h1 h2 h3 h4 h5) (fun σ1 hJ hm => by rw [← hm]; exact N_waits hJ.2.1 hJ.2.2.1 h1 h2 h3 h4 h5)
theorem b_goes {σ : St} (hI : Inv σ) {p1 p2 p3 p4 : Int} (h1 : in32 p1) (h2 : in32 p2) (h3 : in32 p3) (h4 : in32 p4) : Both (fun σ => f_X8_goes σ p1 p2 p3 p4) (fun σ => f_X9_goes σ p1 p2 p3 p4) σ :=
  both_q hI (V_goes hI h1 h2 h3 h4) (fun σ1 hJ hm => by rw [← hm]; exact N_goes hJ.2.1 hJ.2.2.1 h1 h2 h3 h4)
theorem b_keep {σ : St} (hI : Inv σ) {p1 p2 p3 p4 p5 p6 : Int} (h1 : in32 p1) (h2 : in32 p2) (h3 : in32 p3) (h4 : in32 p4) (h5 : in32 p5) (h6 : in32 p6) : Both (fun σ => f_X8_keep σ p1 p2 p3 p4 p5 p6) (fun σ => f_X9_keep σ p1 p2 p3 p4 p5 p6) σ :=
  both_q hI (V_keep hI h1 h2 h3 h4 h5 h6) (fun σ1 hJ hm => by rw [← hm]; exact N_keep hJ.2.1 hJ.1.c4.2.1 h1 h2 h3 h4 h5 h6)
theorem b_never {σ : St} (hI : Inv σ) {p1 : Int} (h1 : in32 p1) : Both (fun σ => f_X8_never σ p1) (fun σ => f_X9_never σ p1) σ :=
  both_q hI (V_never hI h1) (fun σ1 hJ hm => by rw [← hm]; exact N_never hJ.2.1 h1)
theorem b_gain {σ : St} (hI : Inv σ) {p1 : Int} (h1 : in32 p1) : Both (fun σ => f_X8_gain σ p1) (fun σ => f_X9_gain σ p1) σ :=
  both_q hI (V_gain hI h1) (fun σ1 hJ hm => by rw [← hm]; exact N_gain hJ.2.1 h1)
theorem b_count {σ : St} (hI : Inv σ) {p1 : Int} (h1 : in32 p1) : Both (fun σ => f_X8_count σ p1) (fun σ => f_X9_count σ p1) σ :=
  both_q hI (QC.of_eq hI (V_count hI h1)) (fun σ1 hJ hm => by rw [← hm]; exact QM.of_eq (m_count hJ.2.1 h1))
theorem b_watch {σ : St} (hI : Inv σ) : Both (fun σ => f_X8_watch σ) (fun σ => f_X9_watch σ) σ :=
  both_q hI (V_watch hI) (fun σ1 hJ hm => by
    rw [← hm]
    unfold f_X9_watch
    rw [m_watchNow hJ.2.1, cll_pos]
    exact ⟨σ1, rfl, QM.rf σ1⟩)
theorem b_fit {σ : St} (hI : Inv σ) : Both (fun σ => f_X8_fit σ) (fun σ => f_X9_fit σ) σ :=
  both_q hI (V_fit hI) (fun σ1 hJ hm => by
    rw [← hm]
    unfold f_X9_fit
    rw [m_fitNow hJ.2.1, cll_pos]
    exact ⟨σ1, rfl, QM.rf σ1⟩)
theorem b_digest {σ : St} (hI : Inv σ) : Both (fun σ => f_X8_digest σ) (fun σ => f_X9_digest σ) σ :=
  both_q hI (V_digest hI) (fun σ1 hJ hm => by rw [← hm]; exact N_digest hJ.ms)
