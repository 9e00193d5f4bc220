/-! CONTRACTS, by runs in the kernel -/
/-! tC_92: X12_rowsOfNight, by hand -/
