/-! the class's world out of its constructors' worlds -/
def gHis : GG := [(2, 0), (10, 4)] ++ gSta ++ gSta ++ gSta ++ gSta
theorem gC_cat : gC = [(7, 0)] ++ gSta ++ gSta ++ gHis ++ gTxt ++ gRdr ++ gReh := by decide +kernel
